/-! Code tables of mean, both sides (laid by wip/whole/tools/gen68.py) -/
def T_113 : tE := [some (.iload_n 1, 1, 1, 0, 0, 0), some (.invokestatic 128, 4, 121, 1, 608, 0), none, none, some (.ifCond .ne 6, 7, 10, 0, 0, 0), none, none, none, none, none, some (.aload_n 0, 11, 0, 0, 0, 0), some (.getfield 10, 14, 0, 7, 273, 0), none, none, some (.iload_n 1, 15, 1, 0, 0, 0), some (.invokevirtual 156, 18, 31, 2, 646, 2), none, none, some (.astore_n 2, 19, 2, 0, 0, 0), some (.aload_n 2, 20, 2, 0, 0, 0), some (.getfield 173, 23, 4, 5, 91, 4), none, none, some (.ifCond .ne 5, 26, 28, 0, 0, 0), none, none, none, none, some (.aload_n 2, 29, 2, 0, 0, 0), some (.getfield 176, 32, 2, 5, 87, 2), none, none, none, some (.aload_n 2, 34, 2, 0, 0, 0), some (.getfield 173, 37, 4, 5, 91, 4)]
set_option maxRecDepth 100000 in
set_option maxHeartbeats 4000000 in
theorem ok_113 : okT 113 T_113 = true := by decide +kernel
set_option maxRecDepth 100000 in
theorem t_113 : tat T_113 0 = some (.iload_n 1, 1, 1, 0, 0, 0) ∧ tat T_113 1 = some (.invokestatic 128, 4, 121, 1, 608, 0) ∧ tat T_113 4 = some (.ifCond .ne 6, 7, 10, 0, 0, 0) ∧ tat T_113 10 = some (.aload_n 0, 11, 0, 0, 0, 0) ∧ tat T_113 11 = some (.getfield 10, 14, 0, 7, 273, 0) ∧ tat T_113 14 = some (.iload_n 1, 15, 1, 0, 0, 0) ∧ tat T_113 15 = some (.invokevirtual 156, 18, 31, 2, 646, 2) ∧ tat T_113 18 = some (.astore_n 2, 19, 2, 0, 0, 0) ∧ tat T_113 19 = some (.aload_n 2, 20, 2, 0, 0, 0) ∧ tat T_113 20 = some (.getfield 173, 23, 4, 5, 91, 4) ∧ tat T_113 23 = some (.ifCond .ne 5, 26, 28, 0, 0, 0) ∧ tat T_113 28 = some (.aload_n 2, 29, 2, 0, 0, 0) ∧ tat T_113 29 = some (.getfield 176, 32, 2, 5, 87, 2) ∧ tat T_113 33 = some (.aload_n 2, 34, 2, 0, 0, 0) ∧ tat T_113 34 = some (.getfield 173, 37, 4, 5, 91, 4) := ⟨rfl, rfl, rfl, rfl, rfl, rfl, rfl, rfl, rfl, rfl, rfl, rfl, rfl, rfl, rfl⟩
theorem fd_113_7 : decode (mB 113) 7 = .ok (.ldc 172, 2) := by decide +kernel
theorem fd_113_9 : decode (mB 113) 9 = .ok (.freturn, 1) := by decide +kernel
theorem fd_113_26 : decode (mB 113) 26 = .ok (.fconst 0, 1) := by decide +kernel
theorem fd_113_27 : decode (mB 113) 27 = .ok (.freturn, 1) := by decide +kernel
theorem fd_113_32 : decode (mB 113) 32 = .ok (.i2f, 1) := by decide +kernel
theorem fd_113_37 : decode (mB 113) 37 = .ok (.i2f, 1) := by decide +kernel
theorem fd_113_38 : decode (mB 113) 38 = .ok (.fdiv, 1) := by decide +kernel
theorem fd_113_39 : decode (mB 113) 39 = .ok (.freturn, 1) := by decide +kernel
theorem ml_113 : mL 113 = 3 := by decide +kernel
theorem mt_113 : mT 113 = some .float := by decide +kernel
theorem wo_113 {as : List AV} {μ : Mem} {Q : Option AV → Mem → Prop} (stop : List Nat) (f : Nat) (h1 : as.all (fun v => !av2 v) = true) (h2 : as.length ≤ 3) (hw : (∀ v ∈ as, wfv v) → vc1 (AW 113 Q) Q T_113 stop f 0 (mkL as 3) [] μ) : wpM 113 as μ Q := wp_of (by decide) h1 (by rw [ml_113]; exact h2) (fun h => by rw [ml_113]; exact vc1_snd ok_113 f (hw h))
def T_171 : tE := [some (.iload_n 1, 1, 1, 0, 0, 0), some (.invokestatic 98, 4, 149, 1, 923, 0), none, none, some (.ifCond .ne 6, 7, 10, 0, 0, 0), none, none, none, none, none, some (.aload_n 0, 11, 0, 0, 0, 0), some (.getfield 7, 14, 0, 8, 789, 0), none, none, some (.iload_n 1, 15, 1, 0, 0, 0), some (.iconst 4, 16, 0, 0, 0, 4), some (.invokestatic 47, 19, 128, 2, 844, 0), none, none, some (.iaload, 20, 0, 0, 0, 0), some (.istore_n 2, 21, 2, 0, 0, 0), some (.iload_n 2, 22, 2, 0, 0, 0), some (.ifCond .ne 7, 25, 29, 0, 0, 0), none, none, none, some (.goto 17, 29, 43, 0, 0, 0), none, none, some (.aload_n 0, 30, 0, 0, 0, 0), some (.getfield 7, 33, 0, 8, 789, 0), none, none, some (.iload_n 1, 34, 1, 0, 0, 0), some (.iconst 2, 35, 0, 0, 0, 2), some (.invokestatic 47, 38, 128, 2, 844, 0), none, none, some (.iaload, 39, 0, 0, 0, 0), none, some (.iload_n 2, 41, 2, 0, 0, 0)]
set_option maxRecDepth 100000 in
set_option maxHeartbeats 4000000 in
theorem ok_171 : okT 171 T_171 = true := by decide +kernel
set_option maxRecDepth 100000 in
theorem t_171 : tat T_171 0 = some (.iload_n 1, 1, 1, 0, 0, 0) ∧ tat T_171 1 = some (.invokestatic 98, 4, 149, 1, 923, 0) ∧ tat T_171 4 = some (.ifCond .ne 6, 7, 10, 0, 0, 0) ∧ tat T_171 10 = some (.aload_n 0, 11, 0, 0, 0, 0) ∧ tat T_171 11 = some (.getfield 7, 14, 0, 8, 789, 0) ∧ tat T_171 14 = some (.iload_n 1, 15, 1, 0, 0, 0) ∧ tat T_171 15 = some (.iconst 4, 16, 0, 0, 0, 4) ∧ tat T_171 16 = some (.invokestatic 47, 19, 128, 2, 844, 0) ∧ tat T_171 19 = some (.iaload, 20, 0, 0, 0, 0) ∧ tat T_171 20 = some (.istore_n 2, 21, 2, 0, 0, 0) ∧ tat T_171 21 = some (.iload_n 2, 22, 2, 0, 0, 0) ∧ tat T_171 22 = some (.ifCond .ne 7, 25, 29, 0, 0, 0) ∧ tat T_171 26 = some (.goto 17, 29, 43, 0, 0, 0) ∧ tat T_171 29 = some (.aload_n 0, 30, 0, 0, 0, 0) ∧ tat T_171 30 = some (.getfield 7, 33, 0, 8, 789, 0) ∧ tat T_171 33 = some (.iload_n 1, 34, 1, 0, 0, 0) ∧ tat T_171 34 = some (.iconst 2, 35, 0, 0, 0, 2) ∧ tat T_171 35 = some (.invokestatic 47, 38, 128, 2, 844, 0) ∧ tat T_171 38 = some (.iaload, 39, 0, 0, 0, 0) ∧ tat T_171 40 = some (.iload_n 2, 41, 2, 0, 0, 0) := ⟨rfl, rfl, rfl, rfl, rfl, rfl, rfl, rfl, rfl, rfl, rfl, rfl, rfl, rfl, rfl, rfl, rfl, rfl, rfl, rfl⟩
theorem fd_171_7 : decode (mB 171) 7 = .ok (.ldc 136, 2) := by decide +kernel
theorem fd_171_9 : decode (mB 171) 9 = .ok (.freturn, 1) := by decide +kernel
theorem fd_171_25 : decode (mB 171) 25 = .ok (.fconst 0, 1) := by decide +kernel
theorem fd_171_39 : decode (mB 171) 39 = .ok (.i2f, 1) := by decide +kernel
theorem fd_171_41 : decode (mB 171) 41 = .ok (.i2f, 1) := by decide +kernel
theorem fd_171_42 : decode (mB 171) 42 = .ok (.fdiv, 1) := by decide +kernel
theorem fd_171_43 : decode (mB 171) 43 = .ok (.freturn, 1) := by decide +kernel
theorem ml_171 : mL 171 = 3 := by decide +kernel
theorem mt_171 : mT 171 = some .float := by decide +kernel
theorem wo_171 {as : List AV} {μ : Mem} {Q : Option AV → Mem → Prop} (stop : List Nat) (f : Nat) (h1 : as.all (fun v => !av2 v) = true) (h2 : as.length ≤ 3) (hw : (∀ v ∈ as, wfv v) → vc1 (AW 171 Q) Q T_171 stop f 0 (mkL as 3) [] μ) : wpM 171 as μ Q := wp_of (by decide) h1 (by rw [ml_171]; exact h2) (fun h => by rw [ml_171]; exact vc1_snd ok_171 f (hw h))
