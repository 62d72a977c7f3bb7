/-! THE SMALL CONSTRUCTORS (laid by wip/p28/tools/gen73.py) -/
set_option maxRecDepth 100000 in
set_option maxHeartbeats 4000000 in
theorem ct_0 {l : Launch} {h0 : Nat} {ad : Nat → Nat} {D : va_G} {cI cC cG : ClassId} {sz : Nat} : ctM l 0 h0 ad D cI cC cG [(h0, .inr (0, blk 0))] sz (fun w => ∃ q, w = [(h0, .inr (0, [.ref q])), (q, .inl (cI, 36, .inl (fun _ => 0)))]) 1 36 := by
  refine ct_of (by decide) (by decide +kernel) (by decide +kernel) (fun p e s m args below meth c ls X hE hA hl => ?_)
  have hl0 := lv_at hl 0 rfl
  have hK := hE.1
  have hls : ls.size = mL 0 := hl.1
  refine cw_al0 X (by decide +kernel) hl0 ?_
  refine cw_obj X (k := 5) (w := 36) (by decide +kernel) (by decide +kernel) hls (by decide +kernel) (by decide +kernel) ?_
  refine cw_al0 X (by decide +kernel) hl0 ?_
  refine cw_bi X (k := 36) (v := 36) (by decide +kernel) (by decide +kernel) ?_
  refine cw_newI X hK hA (N := 36) (by decide +kernel) (by decide +kernel) (by decide +kernel) (by decide +kernel) (Nat.le_of_ble_eq_true rfl) (Nat.le_of_ble_eq_true rfl) (fun q1 => ?_)
  refine cw_putF X hK (ci := 0) (i := 0) (k := 11) (w := 37) (r := .array .int) (by decide +kernel) rfl (by decide) (by decide +kernel) rfl rfl (by decide +kernel) (by decide +kernel) rfl rfl (Nat.le_of_ble_eq_true rfl) ?_
  exact cw_ret X (by decide +kernel) (by decide +kernel) (Nat.le_of_ble_eq_true rfl) (Nat.le_of_ble_eq_true rfl) ⟨q1, rfl⟩
set_option maxRecDepth 100000 in
set_option maxHeartbeats 4000000 in
theorem ct_14 {l : Launch} {h0 : Nat} {ad : Nat → Nat} {D : va_G} {cI cC cG : ClassId} {sz : Nat} : ctM l 14 h0 ad D cI cC cG [(h0, .inr (1, blk 1))] sz (fun w => ∃ q, w = [(h0, .inr (1, [.ref q, .int 0, .int 0])), (q, .inl (cC, 3417, .inl (fun _ => 0)))]) 1 3417 := by
  refine ct_of (by decide) (by decide +kernel) (by decide +kernel) (fun p e s m args below meth c ls X hE hA hl => ?_)
  have hl0 := lv_at hl 0 rfl
  have hK := hE.1
  have hls : ls.size = mL 14 := hl.1
  refine cw_al0 X (by decide +kernel) hl0 ?_
  refine cw_obj X (k := 5) (w := 116) (by decide +kernel) (by decide +kernel) hls (by decide +kernel) (by decide +kernel) ?_
  refine cw_al0 X (by decide +kernel) hl0 ?_
  refine cw_si X (k := 3417) (v := 3417) (by decide +kernel) (by decide +kernel) ?_
  refine cw_newC X hK hA (N := 3417) (by decide +kernel) (by decide +kernel) (by decide +kernel) (by decide +kernel) (Nat.le_of_ble_eq_true rfl) (Nat.le_of_ble_eq_true rfl) (fun q1 => ?_)
  refine cw_putF X hK (ci := 1) (i := 0) (k := 11) (w := 117) (r := .array .char) (by decide +kernel) rfl (by decide) (by decide +kernel) rfl rfl (by decide +kernel) (by decide +kernel) rfl rfl (Nat.le_of_ble_eq_true rfl) ?_
  exact cw_ret X (by decide +kernel) (by decide +kernel) (Nat.le_of_ble_eq_true rfl) (Nat.le_of_ble_eq_true rfl) ⟨q1, rfl⟩
set_option maxRecDepth 100000 in
set_option maxHeartbeats 4000000 in
theorem ct_71 {l : Launch} {h0 : Nat} {ad : Nat → Nat} {D : va_G} {cI cC cG : ClassId} {sz : Nat} : ctM l 71 h0 ad D cI cC cG [(h0, .inr (5, blk 5))] sz (fun w => w = [(h0, .inr (5, blk 5))]) 0 0 := by
  refine ct_of (by decide) (by decide +kernel) (by decide +kernel) (fun p e s m args below meth c ls X hE hA hl => ?_)
  have hl0 := lv_at hl 0 rfl
  have hK := hE.1
  have hls : ls.size = mL 71 := hl.1
  refine cw_al0 X (by decide +kernel) hl0 ?_
  refine cw_obj X (k := 3) (w := 47) (by decide +kernel) (by decide +kernel) hls (by decide +kernel) (by decide +kernel) ?_
  exact cw_ret X (by decide +kernel) (by decide +kernel) (Nat.le_of_ble_eq_true rfl) (Nat.le_of_ble_eq_true rfl) rfl
set_option maxRecDepth 100000 in
set_option maxHeartbeats 4000000 in
theorem ct_67 {l : Launch} {h0 : Nat} {ad : Nat → Nat} {D : va_G} {cI cC cG : ClassId} {sz : Nat} : ctM l 67 h0 ad D cI cC cG [(h0, .inr (4, blk 4))] sz (fun w => ∃ q1 q2 q3 q4, w = [(h0, .inr (4, [.ref q1, .ref q2, .ref q3, .ref q4, .int 0, .int 0, .int 0, .int 0, .int 0])), (q1, .inl (cI, 200, .inl (fun _ => 0))), (q2, .inl (cI, 200, .inl (fun _ => 0))), (q3, .inl (cI, 200, .inl (fun _ => 0))), (q4, .inl (cI, 200, .inl (fun _ => 0)))]) 4 800 := by
  refine ct_of (by decide) (by decide +kernel) (by decide +kernel) (fun p e s m args below meth c ls X hE hA hl => ?_)
  have hl0 := lv_at hl 0 rfl
  have hK := hE.1
  have hls : ls.size = mL 67 := hl.1
  refine cw_al0 X (by decide +kernel) hl0 ?_
  refine cw_obj X (k := 1) (w := 77) (by decide +kernel) (by decide +kernel) hls (by decide +kernel) (by decide +kernel) ?_
  refine cw_al0 X (by decide +kernel) hl0 ?_
  refine cw_si X (k := 200) (v := 200) (by decide +kernel) (by decide +kernel) ?_
  refine cw_newI X hK hA (N := 200) (by decide +kernel) (by decide +kernel) (by decide +kernel) (by decide +kernel) (Nat.le_of_ble_eq_true rfl) (Nat.le_of_ble_eq_true rfl) (fun q1 => ?_)
  refine cw_putF X hK (ci := 4) (i := 0) (k := 9) (w := 78) (r := .array .int) (by decide +kernel) rfl (by decide) (by decide +kernel) rfl rfl (by decide +kernel) (by decide +kernel) rfl rfl (Nat.le_of_ble_eq_true rfl) ?_
  refine cw_al0 X (by decide +kernel) hl0 ?_
  refine cw_si X (k := 200) (v := 200) (by decide +kernel) (by decide +kernel) ?_
  refine cw_newI X hK hA (N := 200) (by decide +kernel) (by decide +kernel) (by decide +kernel) (by decide +kernel) (Nat.le_of_ble_eq_true rfl) (Nat.le_of_ble_eq_true rfl) (fun q2 => ?_)
  refine cw_putF X hK (ci := 4) (i := 1) (k := 15) (w := 79) (r := .array .int) (by decide +kernel) rfl (by decide) (by decide +kernel) rfl rfl (by decide +kernel) (by decide +kernel) rfl rfl (Nat.le_of_ble_eq_true rfl) ?_
  refine cw_al0 X (by decide +kernel) hl0 ?_
  refine cw_si X (k := 200) (v := 200) (by decide +kernel) (by decide +kernel) ?_
  refine cw_newI X hK hA (N := 200) (by decide +kernel) (by decide +kernel) (by decide +kernel) (by decide +kernel) (Nat.le_of_ble_eq_true rfl) (Nat.le_of_ble_eq_true rfl) (fun q3 => ?_)
  refine cw_putF X hK (ci := 4) (i := 2) (k := 18) (w := 80) (r := .array .int) (by decide +kernel) rfl (by decide) (by decide +kernel) rfl rfl (by decide +kernel) (by decide +kernel) rfl rfl (Nat.le_of_ble_eq_true rfl) ?_
  refine cw_al0 X (by decide +kernel) hl0 ?_
  refine cw_si X (k := 200) (v := 200) (by decide +kernel) (by decide +kernel) ?_
  refine cw_newI X hK hA (N := 200) (by decide +kernel) (by decide +kernel) (by decide +kernel) (by decide +kernel) (Nat.le_of_ble_eq_true rfl) (Nat.le_of_ble_eq_true rfl) (fun q4 => ?_)
  refine cw_putF X hK (ci := 4) (i := 3) (k := 21) (w := 81) (r := .array .int) (by decide +kernel) rfl (by decide) (by decide +kernel) rfl rfl (by decide +kernel) (by decide +kernel) rfl rfl (Nat.le_of_ble_eq_true rfl) ?_
  exact cw_ret X (by decide +kernel) (by decide +kernel) (Nat.le_of_ble_eq_true rfl) (Nat.le_of_ble_eq_true rfl) ⟨q1, q2, q3, q4, rfl⟩
set_option maxRecDepth 100000 in
set_option maxHeartbeats 4000000 in
theorem ct_77 {l : Launch} {h0 : Nat} {ad : Nat → Nat} {D : va_G} {cI cC cG : ClassId} {sz : Nat} : ctM l 77 h0 ad D cI cC cG [(h0, .inr (6, blk 6))] sz (fun w => ∃ q, w = [(h0, .inr (6, [.ref q, .int 0])), (q, .inl (cC, 100, .inl (fun _ => 0)))]) 1 100 := by
  refine ct_of (by decide) (by decide +kernel) (by decide +kernel) (fun p e s m args below meth c ls X hE hA hl => ?_)
  have hl0 := lv_at hl 0 rfl
  have hK := hE.1
  have hls : ls.size = mL 77 := hl.1
  refine cw_al0 X (by decide +kernel) hl0 ?_
  refine cw_obj X (k := 1) (w := 230) (by decide +kernel) (by decide +kernel) hls (by decide +kernel) (by decide +kernel) ?_
  refine cw_al0 X (by decide +kernel) hl0 ?_
  refine cw_bi X (k := 100) (v := 100) (by decide +kernel) (by decide +kernel) ?_
  refine cw_newC X hK hA (N := 100) (by decide +kernel) (by decide +kernel) (by decide +kernel) (by decide +kernel) (Nat.le_of_ble_eq_true rfl) (Nat.le_of_ble_eq_true rfl) (fun q1 => ?_)
  refine cw_putF X hK (ci := 6) (i := 0) (k := 9) (w := 231) (r := .array .char) (by decide +kernel) rfl (by decide) (by decide +kernel) rfl rfl (by decide +kernel) (by decide +kernel) rfl rfl (Nat.le_of_ble_eq_true rfl) ?_
  exact cw_ret X (by decide +kernel) (by decide +kernel) (Nat.le_of_ble_eq_true rfl) (Nat.le_of_ble_eq_true rfl) ⟨q1, rfl⟩
