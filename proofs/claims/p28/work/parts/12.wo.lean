/-! Each method: its contract out of its conditions (laid by wip/p28/tools/gen12.py) -/
theorem ml_1 : mL 1 = 3 := by decide +kernel
theorem wo_1 {as : List AV} {μ : Mem} {Q : Option AV → Mem → Prop} (stop : List Nat) (f : Nat) (h1 : as.all (fun v => !av2 v) = true) (h2 : as.length ≤ 3) (hw : (∀ v ∈ as, wfv v) → vc1 (AW 1 Q) Q T_1 stop f 0 (mkL as 3) [] μ) : wpM 1 as μ Q := wp_of (by decide) h1 (by rw [ml_1]; exact h2) (fun h => by rw [ml_1]; exact vc1_snd ok_1 f (hw h))
theorem ml_2 : mL 2 = 2 := by decide +kernel
theorem wo_2 {as : List AV} {μ : Mem} {Q : Option AV → Mem → Prop} (stop : List Nat) (f : Nat) (h1 : as.all (fun v => !av2 v) = true) (h2 : as.length ≤ 2) (hw : (∀ v ∈ as, wfv v) → vc1 (AW 2 Q) Q T_2 stop f 0 (mkL as 2) [] μ) : wpM 2 as μ Q := wp_of (by decide) h1 (by rw [ml_2]; exact h2) (fun h => by rw [ml_2]; exact vc1_snd ok_2 f (hw h))
theorem ml_3 : mL 3 = 2 := by decide +kernel
theorem wo_3 {as : List AV} {μ : Mem} {Q : Option AV → Mem → Prop} (stop : List Nat) (f : Nat) (h1 : as.all (fun v => !av2 v) = true) (h2 : as.length ≤ 2) (hw : (∀ v ∈ as, wfv v) → vc1 (AW 3 Q) Q T_3 stop f 0 (mkL as 2) [] μ) : wpM 3 as μ Q := wp_of (by decide) h1 (by rw [ml_3]; exact h2) (fun h => by rw [ml_3]; exact vc1_snd ok_3 f (hw h))
theorem ml_4 : mL 4 = 3 := by decide +kernel
theorem wo_4 {as : List AV} {μ : Mem} {Q : Option AV → Mem → Prop} (stop : List Nat) (f : Nat) (h1 : as.all (fun v => !av2 v) = true) (h2 : as.length ≤ 3) (hw : (∀ v ∈ as, wfv v) → vc1 (AW 4 Q) Q T_4 stop f 0 (mkL as 3) [] μ) : wpM 4 as μ Q := wp_of (by decide) h1 (by rw [ml_4]; exact h2) (fun h => by rw [ml_4]; exact vc1_snd ok_4 f (hw h))
theorem ml_5 : mL 5 = 3 := by decide +kernel
theorem wo_5 {as : List AV} {μ : Mem} {Q : Option AV → Mem → Prop} (stop : List Nat) (f : Nat) (h1 : as.all (fun v => !av2 v) = true) (h2 : as.length ≤ 3) (hw : (∀ v ∈ as, wfv v) → vc1 (AW 5 Q) Q T_5 stop f 0 (mkL as 3) [] μ) : wpM 5 as μ Q := wp_of (by decide) h1 (by rw [ml_5]; exact h2) (fun h => by rw [ml_5]; exact vc1_snd ok_5 f (hw h))
theorem ml_6 : mL 6 = 4 := by decide +kernel
theorem wo_6 {as : List AV} {μ : Mem} {Q : Option AV → Mem → Prop} (stop : List Nat) (f : Nat) (h1 : as.all (fun v => !av2 v) = true) (h2 : as.length ≤ 4) (hw : (∀ v ∈ as, wfv v) → vc1 (AW 6 Q) Q T_6 stop f 0 (mkL as 4) [] μ) : wpM 6 as μ Q := wp_of (by decide) h1 (by rw [ml_6]; exact h2) (fun h => by rw [ml_6]; exact vc1_snd ok_6 f (hw h))
theorem ml_7 : mL 7 = 4 := by decide +kernel
theorem wo_7 {as : List AV} {μ : Mem} {Q : Option AV → Mem → Prop} (stop : List Nat) (f : Nat) (h1 : as.all (fun v => !av2 v) = true) (h2 : as.length ≤ 4) (hw : (∀ v ∈ as, wfv v) → vc1 (AW 7 Q) Q T_7 stop f 0 (mkL as 4) [] μ) : wpM 7 as μ Q := wp_of (by decide) h1 (by rw [ml_7]; exact h2) (fun h => by rw [ml_7]; exact vc1_snd ok_7 f (hw h))
theorem ml_8 : mL 8 = 3 := by decide +kernel
theorem wo_8 {as : List AV} {μ : Mem} {Q : Option AV → Mem → Prop} (stop : List Nat) (f : Nat) (h1 : as.all (fun v => !av2 v) = true) (h2 : as.length ≤ 3) (hw : (∀ v ∈ as, wfv v) → vc1 (AW 8 Q) Q T_8 stop f 0 (mkL as 3) [] μ) : wpM 8 as μ Q := wp_of (by decide) h1 (by rw [ml_8]; exact h2) (fun h => by rw [ml_8]; exact vc1_snd ok_8 f (hw h))
theorem ml_9 : mL 9 = 7 := by decide +kernel
theorem wo_9 {as : List AV} {μ : Mem} {Q : Option AV → Mem → Prop} (stop : List Nat) (f : Nat) (h1 : as.all (fun v => !av2 v) = true) (h2 : as.length ≤ 7) (hw : (∀ v ∈ as, wfv v) → vc1 (AW 9 Q) Q T_9 stop f 0 (mkL as 7) [] μ) : wpM 9 as μ Q := wp_of (by decide) h1 (by rw [ml_9]; exact h2) (fun h => by rw [ml_9]; exact vc1_snd ok_9 f (hw h))
theorem ml_10 : mL 10 = 6 := by decide +kernel
theorem wo_10 {as : List AV} {μ : Mem} {Q : Option AV → Mem → Prop} (stop : List Nat) (f : Nat) (h1 : as.all (fun v => !av2 v) = true) (h2 : as.length ≤ 6) (hw : (∀ v ∈ as, wfv v) → vc1 (AW 10 Q) Q T_10 stop f 0 (mkL as 6) [] μ) : wpM 10 as μ Q := wp_of (by decide) h1 (by rw [ml_10]; exact h2) (fun h => by rw [ml_10]; exact vc1_snd ok_10 f (hw h))
theorem ml_11 : mL 11 = 2 := by decide +kernel
theorem wo_11 {as : List AV} {μ : Mem} {Q : Option AV → Mem → Prop} (stop : List Nat) (f : Nat) (h1 : as.all (fun v => !av2 v) = true) (h2 : as.length ≤ 2) (hw : (∀ v ∈ as, wfv v) → vc1 (AW 11 Q) Q T_11 stop f 0 (mkL as 2) [] μ) : wpM 11 as μ Q := wp_of (by decide) h1 (by rw [ml_11]; exact h2) (fun h => by rw [ml_11]; exact vc1_snd ok_11 f (hw h))
theorem ml_12 : mL 12 = 6 := by decide +kernel
theorem wo_12 {as : List AV} {μ : Mem} {Q : Option AV → Mem → Prop} (stop : List Nat) (f : Nat) (h1 : as.all (fun v => !av2 v) = true) (h2 : as.length ≤ 6) (hw : (∀ v ∈ as, wfv v) → vc1 (AW 12 Q) Q T_12 stop f 0 (mkL as 6) [] μ) : wpM 12 as μ Q := wp_of (by decide) h1 (by rw [ml_12]; exact h2) (fun h => by rw [ml_12]; exact vc1_snd ok_12 f (hw h))
theorem ml_13 : mL 13 = 7 := by decide +kernel
theorem wo_13 {as : List AV} {μ : Mem} {Q : Option AV → Mem → Prop} (stop : List Nat) (f : Nat) (h1 : as.all (fun v => !av2 v) = true) (h2 : as.length ≤ 7) (hw : (∀ v ∈ as, wfv v) → vc1 (AW 13 Q) Q T_13 stop f 0 (mkL as 7) [] μ) : wpM 13 as μ Q := wp_of (by decide) h1 (by rw [ml_13]; exact h2) (fun h => by rw [ml_13]; exact vc1_snd ok_13 f (hw h))
theorem ml_15 : mL 15 = 1 := by decide +kernel
theorem wo_15 {as : List AV} {μ : Mem} {Q : Option AV → Mem → Prop} (stop : List Nat) (f : Nat) (h1 : as.all (fun v => !av2 v) = true) (h2 : as.length ≤ 1) (hw : (∀ v ∈ as, wfv v) → vc1 (AW 15 Q) Q T_15 stop f 0 (mkL as 1) [] μ) : wpM 15 as μ Q := wp_of (by decide) h1 (by rw [ml_15]; exact h2) (fun h => by rw [ml_15]; exact vc1_snd ok_15 f (hw h))
theorem ml_16 : mL 16 = 3 := by decide +kernel
theorem wo_16 {as : List AV} {μ : Mem} {Q : Option AV → Mem → Prop} (stop : List Nat) (f : Nat) (h1 : as.all (fun v => !av2 v) = true) (h2 : as.length ≤ 3) (hw : (∀ v ∈ as, wfv v) → vc1 (AW 16 Q) Q T_16 stop f 0 (mkL as 3) [] μ) : wpM 16 as μ Q := wp_of (by decide) h1 (by rw [ml_16]; exact h2) (fun h => by rw [ml_16]; exact vc1_snd ok_16 f (hw h))
theorem ml_17 : mL 17 = 1 := by decide +kernel
theorem wo_17 {as : List AV} {μ : Mem} {Q : Option AV → Mem → Prop} (stop : List Nat) (f : Nat) (h1 : as.all (fun v => !av2 v) = true) (h2 : as.length ≤ 1) (hw : (∀ v ∈ as, wfv v) → vc1 (AW 17 Q) Q T_17 stop f 0 (mkL as 1) [] μ) : wpM 17 as μ Q := wp_of (by decide) h1 (by rw [ml_17]; exact h2) (fun h => by rw [ml_17]; exact vc1_snd ok_17 f (hw h))
theorem ml_18 : mL 18 = 2 := by decide +kernel
theorem wo_18 {as : List AV} {μ : Mem} {Q : Option AV → Mem → Prop} (stop : List Nat) (f : Nat) (h1 : as.all (fun v => !av2 v) = true) (h2 : as.length ≤ 2) (hw : (∀ v ∈ as, wfv v) → vc1 (AW 18 Q) Q T_18 stop f 0 (mkL as 2) [] μ) : wpM 18 as μ Q := wp_of (by decide) h1 (by rw [ml_18]; exact h2) (fun h => by rw [ml_18]; exact vc1_snd ok_18 f (hw h))
theorem ml_19 : mL 19 = 6 := by decide +kernel
theorem wo_19 {as : List AV} {μ : Mem} {Q : Option AV → Mem → Prop} (stop : List Nat) (f : Nat) (h1 : as.all (fun v => !av2 v) = true) (h2 : as.length ≤ 6) (hw : (∀ v ∈ as, wfv v) → vc1 (AW 19 Q) Q T_19 stop f 0 (mkL as 6) [] μ) : wpM 19 as μ Q := wp_of (by decide) h1 (by rw [ml_19]; exact h2) (fun h => by rw [ml_19]; exact vc1_snd ok_19 f (hw h))
theorem ml_20 : mL 20 = 2 := by decide +kernel
theorem wo_20 {as : List AV} {μ : Mem} {Q : Option AV → Mem → Prop} (stop : List Nat) (f : Nat) (h1 : as.all (fun v => !av2 v) = true) (h2 : as.length ≤ 2) (hw : (∀ v ∈ as, wfv v) → vc1 (AW 20 Q) Q T_20 stop f 0 (mkL as 2) [] μ) : wpM 20 as μ Q := wp_of (by decide) h1 (by rw [ml_20]; exact h2) (fun h => by rw [ml_20]; exact vc1_snd ok_20 f (hw h))
theorem ml_21 : mL 21 = 2 := by decide +kernel
theorem wo_21 {as : List AV} {μ : Mem} {Q : Option AV → Mem → Prop} (stop : List Nat) (f : Nat) (h1 : as.all (fun v => !av2 v) = true) (h2 : as.length ≤ 2) (hw : (∀ v ∈ as, wfv v) → vc1 (AW 21 Q) Q T_21 stop f 0 (mkL as 2) [] μ) : wpM 21 as μ Q := wp_of (by decide) h1 (by rw [ml_21]; exact h2) (fun h => by rw [ml_21]; exact vc1_snd ok_21 f (hw h))
theorem ml_22 : mL 22 = 2 := by decide +kernel
theorem wo_22 {as : List AV} {μ : Mem} {Q : Option AV → Mem → Prop} (stop : List Nat) (f : Nat) (h1 : as.all (fun v => !av2 v) = true) (h2 : as.length ≤ 2) (hw : (∀ v ∈ as, wfv v) → vc1 (AW 22 Q) Q T_22 stop f 0 (mkL as 2) [] μ) : wpM 22 as μ Q := wp_of (by decide) h1 (by rw [ml_22]; exact h2) (fun h => by rw [ml_22]; exact vc1_snd ok_22 f (hw h))
theorem ml_23 : mL 23 = 1 := by decide +kernel
theorem wo_23 {as : List AV} {μ : Mem} {Q : Option AV → Mem → Prop} (stop : List Nat) (f : Nat) (h1 : as.all (fun v => !av2 v) = true) (h2 : as.length ≤ 1) (hw : (∀ v ∈ as, wfv v) → vc1 (AW 23 Q) Q T_23 stop f 0 (mkL as 1) [] μ) : wpM 23 as μ Q := wp_of (by decide) h1 (by rw [ml_23]; exact h2) (fun h => by rw [ml_23]; exact vc1_snd ok_23 f (hw h))
theorem ml_24 : mL 24 = 2 := by decide +kernel
theorem wo_24 {as : List AV} {μ : Mem} {Q : Option AV → Mem → Prop} (stop : List Nat) (f : Nat) (h1 : as.all (fun v => !av2 v) = true) (h2 : as.length ≤ 2) (hw : (∀ v ∈ as, wfv v) → vc1 (AW 24 Q) Q T_24 stop f 0 (mkL as 2) [] μ) : wpM 24 as μ Q := wp_of (by decide) h1 (by rw [ml_24]; exact h2) (fun h => by rw [ml_24]; exact vc1_snd ok_24 f (hw h))
theorem ml_25 : mL 25 = 4 := by decide +kernel
theorem wo_25 {as : List AV} {μ : Mem} {Q : Option AV → Mem → Prop} (stop : List Nat) (f : Nat) (h1 : as.all (fun v => !av2 v) = true) (h2 : as.length ≤ 4) (hw : (∀ v ∈ as, wfv v) → vc1 (AW 25 Q) Q T_25 stop f 0 (mkL as 4) [] μ) : wpM 25 as μ Q := wp_of (by decide) h1 (by rw [ml_25]; exact h2) (fun h => by rw [ml_25]; exact vc1_snd ok_25 f (hw h))
theorem ml_26 : mL 26 = 2 := by decide +kernel
theorem wo_26 {as : List AV} {μ : Mem} {Q : Option AV → Mem → Prop} (stop : List Nat) (f : Nat) (h1 : as.all (fun v => !av2 v) = true) (h2 : as.length ≤ 2) (hw : (∀ v ∈ as, wfv v) → vc1 (AW 26 Q) Q T_26 stop f 0 (mkL as 2) [] μ) : wpM 26 as μ Q := wp_of (by decide) h1 (by rw [ml_26]; exact h2) (fun h => by rw [ml_26]; exact vc1_snd ok_26 f (hw h))
theorem ml_27 : mL 27 = 2 := by decide +kernel
theorem wo_27 {as : List AV} {μ : Mem} {Q : Option AV → Mem → Prop} (stop : List Nat) (f : Nat) (h1 : as.all (fun v => !av2 v) = true) (h2 : as.length ≤ 2) (hw : (∀ v ∈ as, wfv v) → vc1 (AW 27 Q) Q T_27 stop f 0 (mkL as 2) [] μ) : wpM 27 as μ Q := wp_of (by decide) h1 (by rw [ml_27]; exact h2) (fun h => by rw [ml_27]; exact vc1_snd ok_27 f (hw h))
theorem ml_29 : mL 29 = 2 := by decide +kernel
theorem wo_29 {as : List AV} {μ : Mem} {Q : Option AV → Mem → Prop} (stop : List Nat) (f : Nat) (h1 : as.all (fun v => !av2 v) = true) (h2 : as.length ≤ 2) (hw : (∀ v ∈ as, wfv v) → vc1 (AW 29 Q) Q T_29 stop f 0 (mkL as 2) [] μ) : wpM 29 as μ Q := wp_of (by decide) h1 (by rw [ml_29]; exact h2) (fun h => by rw [ml_29]; exact vc1_snd ok_29 f (hw h))
theorem ml_30 : mL 30 = 1 := by decide +kernel
theorem wo_30 {as : List AV} {μ : Mem} {Q : Option AV → Mem → Prop} (stop : List Nat) (f : Nat) (h1 : as.all (fun v => !av2 v) = true) (h2 : as.length ≤ 1) (hw : (∀ v ∈ as, wfv v) → vc1 (AW 30 Q) Q T_30 stop f 0 (mkL as 1) [] μ) : wpM 30 as μ Q := wp_of (by decide) h1 (by rw [ml_30]; exact h2) (fun h => by rw [ml_30]; exact vc1_snd ok_30 f (hw h))
theorem ml_31 : mL 31 = 2 := by decide +kernel
theorem wo_31 {as : List AV} {μ : Mem} {Q : Option AV → Mem → Prop} (stop : List Nat) (f : Nat) (h1 : as.all (fun v => !av2 v) = true) (h2 : as.length ≤ 2) (hw : (∀ v ∈ as, wfv v) → vc1 (AW 31 Q) Q T_31 stop f 0 (mkL as 2) [] μ) : wpM 31 as μ Q := wp_of (by decide) h1 (by rw [ml_31]; exact h2) (fun h => by rw [ml_31]; exact vc1_snd ok_31 f (hw h))
theorem ml_32 : mL 32 = 1 := by decide +kernel
theorem wo_32 {as : List AV} {μ : Mem} {Q : Option AV → Mem → Prop} (stop : List Nat) (f : Nat) (h1 : as.all (fun v => !av2 v) = true) (h2 : as.length ≤ 1) (hw : (∀ v ∈ as, wfv v) → vc1 (AW 32 Q) Q T_32 stop f 0 (mkL as 1) [] μ) : wpM 32 as μ Q := wp_of (by decide) h1 (by rw [ml_32]; exact h2) (fun h => by rw [ml_32]; exact vc1_snd ok_32 f (hw h))
theorem ml_33 : mL 33 = 2 := by decide +kernel
theorem wo_33 {as : List AV} {μ : Mem} {Q : Option AV → Mem → Prop} (stop : List Nat) (f : Nat) (h1 : as.all (fun v => !av2 v) = true) (h2 : as.length ≤ 2) (hw : (∀ v ∈ as, wfv v) → vc1 (AW 33 Q) Q T_33 stop f 0 (mkL as 2) [] μ) : wpM 33 as μ Q := wp_of (by decide) h1 (by rw [ml_33]; exact h2) (fun h => by rw [ml_33]; exact vc1_snd ok_33 f (hw h))
theorem ml_34 : mL 34 = 2 := by decide +kernel
theorem wo_34 {as : List AV} {μ : Mem} {Q : Option AV → Mem → Prop} (stop : List Nat) (f : Nat) (h1 : as.all (fun v => !av2 v) = true) (h2 : as.length ≤ 2) (hw : (∀ v ∈ as, wfv v) → vc1 (AW 34 Q) Q T_34 stop f 0 (mkL as 2) [] μ) : wpM 34 as μ Q := wp_of (by decide) h1 (by rw [ml_34]; exact h2) (fun h => by rw [ml_34]; exact vc1_snd ok_34 f (hw h))
theorem ml_35 : mL 35 = 3 := by decide +kernel
theorem wo_35 {as : List AV} {μ : Mem} {Q : Option AV → Mem → Prop} (stop : List Nat) (f : Nat) (h1 : as.all (fun v => !av2 v) = true) (h2 : as.length ≤ 3) (hw : (∀ v ∈ as, wfv v) → vc1 (AW 35 Q) Q T_35 stop f 0 (mkL as 3) [] μ) : wpM 35 as μ Q := wp_of (by decide) h1 (by rw [ml_35]; exact h2) (fun h => by rw [ml_35]; exact vc1_snd ok_35 f (hw h))
theorem ml_36 : mL 36 = 4 := by decide +kernel
theorem wo_36 {as : List AV} {μ : Mem} {Q : Option AV → Mem → Prop} (stop : List Nat) (f : Nat) (h1 : as.all (fun v => !av2 v) = true) (h2 : as.length ≤ 4) (hw : (∀ v ∈ as, wfv v) → vc1 (AW 36 Q) Q T_36 stop f 0 (mkL as 4) [] μ) : wpM 36 as μ Q := wp_of (by decide) h1 (by rw [ml_36]; exact h2) (fun h => by rw [ml_36]; exact vc1_snd ok_36 f (hw h))
theorem ml_37 : mL 37 = 2 := by decide +kernel
theorem wo_37 {as : List AV} {μ : Mem} {Q : Option AV → Mem → Prop} (stop : List Nat) (f : Nat) (h1 : as.all (fun v => !av2 v) = true) (h2 : as.length ≤ 2) (hw : (∀ v ∈ as, wfv v) → vc1 (AW 37 Q) Q T_37 stop f 0 (mkL as 2) [] μ) : wpM 37 as μ Q := wp_of (by decide) h1 (by rw [ml_37]; exact h2) (fun h => by rw [ml_37]; exact vc1_snd ok_37 f (hw h))
theorem ml_38 : mL 38 = 5 := by decide +kernel
theorem wo_38 {as : List AV} {μ : Mem} {Q : Option AV → Mem → Prop} (stop : List Nat) (f : Nat) (h1 : as.all (fun v => !av2 v) = true) (h2 : as.length ≤ 5) (hw : (∀ v ∈ as, wfv v) → vc1 (AW 38 Q) Q T_38 stop f 0 (mkL as 5) [] μ) : wpM 38 as μ Q := wp_of (by decide) h1 (by rw [ml_38]; exact h2) (fun h => by rw [ml_38]; exact vc1_snd ok_38 f (hw h))
theorem ml_39 : mL 39 = 1 := by decide +kernel
theorem wo_39 {as : List AV} {μ : Mem} {Q : Option AV → Mem → Prop} (stop : List Nat) (f : Nat) (h1 : as.all (fun v => !av2 v) = true) (h2 : as.length ≤ 1) (hw : (∀ v ∈ as, wfv v) → vc1 (AW 39 Q) Q T_39 stop f 0 (mkL as 1) [] μ) : wpM 39 as μ Q := wp_of (by decide) h1 (by rw [ml_39]; exact h2) (fun h => by rw [ml_39]; exact vc1_snd ok_39 f (hw h))
theorem ml_40 : mL 40 = 1 := by decide +kernel
theorem wo_40 {as : List AV} {μ : Mem} {Q : Option AV → Mem → Prop} (stop : List Nat) (f : Nat) (h1 : as.all (fun v => !av2 v) = true) (h2 : as.length ≤ 1) (hw : (∀ v ∈ as, wfv v) → vc1 (AW 40 Q) Q T_40 stop f 0 (mkL as 1) [] μ) : wpM 40 as μ Q := wp_of (by decide) h1 (by rw [ml_40]; exact h2) (fun h => by rw [ml_40]; exact vc1_snd ok_40 f (hw h))
theorem ml_41 : mL 41 = 2 := by decide +kernel
theorem wo_41 {as : List AV} {μ : Mem} {Q : Option AV → Mem → Prop} (stop : List Nat) (f : Nat) (h1 : as.all (fun v => !av2 v) = true) (h2 : as.length ≤ 2) (hw : (∀ v ∈ as, wfv v) → vc1 (AW 41 Q) Q T_41 stop f 0 (mkL as 2) [] μ) : wpM 41 as μ Q := wp_of (by decide) h1 (by rw [ml_41]; exact h2) (fun h => by rw [ml_41]; exact vc1_snd ok_41 f (hw h))
theorem ml_42 : mL 42 = 3 := by decide +kernel
theorem wo_42 {as : List AV} {μ : Mem} {Q : Option AV → Mem → Prop} (stop : List Nat) (f : Nat) (h1 : as.all (fun v => !av2 v) = true) (h2 : as.length ≤ 3) (hw : (∀ v ∈ as, wfv v) → vc1 (AW 42 Q) Q T_42 stop f 0 (mkL as 3) [] μ) : wpM 42 as μ Q := wp_of (by decide) h1 (by rw [ml_42]; exact h2) (fun h => by rw [ml_42]; exact vc1_snd ok_42 f (hw h))
theorem ml_43 : mL 43 = 9 := by decide +kernel
theorem wo_43 {as : List AV} {μ : Mem} {Q : Option AV → Mem → Prop} (stop : List Nat) (f : Nat) (h1 : as.all (fun v => !av2 v) = true) (h2 : as.length ≤ 9) (hw : (∀ v ∈ as, wfv v) → vc1 (AW 43 Q) Q T_43 stop f 0 (mkL as 9) [] μ) : wpM 43 as μ Q := wp_of (by decide) h1 (by rw [ml_43]; exact h2) (fun h => by rw [ml_43]; exact vc1_snd ok_43 f (hw h))
theorem ml_44 : mL 44 = 3 := by decide +kernel
theorem wo_44 {as : List AV} {μ : Mem} {Q : Option AV → Mem → Prop} (stop : List Nat) (f : Nat) (h1 : as.all (fun v => !av2 v) = true) (h2 : as.length ≤ 3) (hw : (∀ v ∈ as, wfv v) → vc1 (AW 44 Q) Q T_44 stop f 0 (mkL as 3) [] μ) : wpM 44 as μ Q := wp_of (by decide) h1 (by rw [ml_44]; exact h2) (fun h => by rw [ml_44]; exact vc1_snd ok_44 f (hw h))
theorem ml_45 : mL 45 = 4 := by decide +kernel
theorem wo_45 {as : List AV} {μ : Mem} {Q : Option AV → Mem → Prop} (stop : List Nat) (f : Nat) (h1 : as.all (fun v => !av2 v) = true) (h2 : as.length ≤ 4) (hw : (∀ v ∈ as, wfv v) → vc1 (AW 45 Q) Q T_45 stop f 0 (mkL as 4) [] μ) : wpM 45 as μ Q := wp_of (by decide) h1 (by rw [ml_45]; exact h2) (fun h => by rw [ml_45]; exact vc1_snd ok_45 f (hw h))
theorem ml_46 : mL 46 = 3 := by decide +kernel
theorem wo_46 {as : List AV} {μ : Mem} {Q : Option AV → Mem → Prop} (stop : List Nat) (f : Nat) (h1 : as.all (fun v => !av2 v) = true) (h2 : as.length ≤ 3) (hw : (∀ v ∈ as, wfv v) → vc1 (AW 46 Q) Q T_46 stop f 0 (mkL as 3) [] μ) : wpM 46 as μ Q := wp_of (by decide) h1 (by rw [ml_46]; exact h2) (fun h => by rw [ml_46]; exact vc1_snd ok_46 f (hw h))
theorem ml_47 : mL 47 = 3 := by decide +kernel
theorem wo_47 {as : List AV} {μ : Mem} {Q : Option AV → Mem → Prop} (stop : List Nat) (f : Nat) (h1 : as.all (fun v => !av2 v) = true) (h2 : as.length ≤ 3) (hw : (∀ v ∈ as, wfv v) → vc1 (AW 47 Q) Q T_47 stop f 0 (mkL as 3) [] μ) : wpM 47 as μ Q := wp_of (by decide) h1 (by rw [ml_47]; exact h2) (fun h => by rw [ml_47]; exact vc1_snd ok_47 f (hw h))
theorem ml_48 : mL 48 = 1 := by decide +kernel
theorem wo_48 {as : List AV} {μ : Mem} {Q : Option AV → Mem → Prop} (stop : List Nat) (f : Nat) (h1 : as.all (fun v => !av2 v) = true) (h2 : as.length ≤ 1) (hw : (∀ v ∈ as, wfv v) → vc1 (AW 48 Q) Q T_48 stop f 0 (mkL as 1) [] μ) : wpM 48 as μ Q := wp_of (by decide) h1 (by rw [ml_48]; exact h2) (fun h => by rw [ml_48]; exact vc1_snd ok_48 f (hw h))
theorem ml_49 : mL 49 = 3 := by decide +kernel
theorem wo_49 {as : List AV} {μ : Mem} {Q : Option AV → Mem → Prop} (stop : List Nat) (f : Nat) (h1 : as.all (fun v => !av2 v) = true) (h2 : as.length ≤ 3) (hw : (∀ v ∈ as, wfv v) → vc1 (AW 49 Q) Q T_49 stop f 0 (mkL as 3) [] μ) : wpM 49 as μ Q := wp_of (by decide) h1 (by rw [ml_49]; exact h2) (fun h => by rw [ml_49]; exact vc1_snd ok_49 f (hw h))
theorem ml_50 : mL 50 = 2 := by decide +kernel
theorem wo_50 {as : List AV} {μ : Mem} {Q : Option AV → Mem → Prop} (stop : List Nat) (f : Nat) (h1 : as.all (fun v => !av2 v) = true) (h2 : as.length ≤ 2) (hw : (∀ v ∈ as, wfv v) → vc1 (AW 50 Q) Q T_50 stop f 0 (mkL as 2) [] μ) : wpM 50 as μ Q := wp_of (by decide) h1 (by rw [ml_50]; exact h2) (fun h => by rw [ml_50]; exact vc1_snd ok_50 f (hw h))
theorem ml_51 : mL 51 = 3 := by decide +kernel
theorem wo_51 {as : List AV} {μ : Mem} {Q : Option AV → Mem → Prop} (stop : List Nat) (f : Nat) (h1 : as.all (fun v => !av2 v) = true) (h2 : as.length ≤ 3) (hw : (∀ v ∈ as, wfv v) → vc1 (AW 51 Q) Q T_51 stop f 0 (mkL as 3) [] μ) : wpM 51 as μ Q := wp_of (by decide) h1 (by rw [ml_51]; exact h2) (fun h => by rw [ml_51]; exact vc1_snd ok_51 f (hw h))
theorem ml_52 : mL 52 = 1 := by decide +kernel
theorem wo_52 {as : List AV} {μ : Mem} {Q : Option AV → Mem → Prop} (stop : List Nat) (f : Nat) (h1 : as.all (fun v => !av2 v) = true) (h2 : as.length ≤ 1) (hw : (∀ v ∈ as, wfv v) → vc1 (AW 52 Q) Q T_52 stop f 0 (mkL as 1) [] μ) : wpM 52 as μ Q := wp_of (by decide) h1 (by rw [ml_52]; exact h2) (fun h => by rw [ml_52]; exact vc1_snd ok_52 f (hw h))
theorem ml_53 : mL 53 = 2 := by decide +kernel
theorem wo_53 {as : List AV} {μ : Mem} {Q : Option AV → Mem → Prop} (stop : List Nat) (f : Nat) (h1 : as.all (fun v => !av2 v) = true) (h2 : as.length ≤ 2) (hw : (∀ v ∈ as, wfv v) → vc1 (AW 53 Q) Q T_53 stop f 0 (mkL as 2) [] μ) : wpM 53 as μ Q := wp_of (by decide) h1 (by rw [ml_53]; exact h2) (fun h => by rw [ml_53]; exact vc1_snd ok_53 f (hw h))
theorem ml_54 : mL 54 = 2 := by decide +kernel
theorem wo_54 {as : List AV} {μ : Mem} {Q : Option AV → Mem → Prop} (stop : List Nat) (f : Nat) (h1 : as.all (fun v => !av2 v) = true) (h2 : as.length ≤ 2) (hw : (∀ v ∈ as, wfv v) → vc1 (AW 54 Q) Q T_54 stop f 0 (mkL as 2) [] μ) : wpM 54 as μ Q := wp_of (by decide) h1 (by rw [ml_54]; exact h2) (fun h => by rw [ml_54]; exact vc1_snd ok_54 f (hw h))
theorem ml_55 : mL 55 = 1 := by decide +kernel
theorem wo_55 {as : List AV} {μ : Mem} {Q : Option AV → Mem → Prop} (stop : List Nat) (f : Nat) (h1 : as.all (fun v => !av2 v) = true) (h2 : as.length ≤ 1) (hw : (∀ v ∈ as, wfv v) → vc1 (AW 55 Q) Q T_55 stop f 0 (mkL as 1) [] μ) : wpM 55 as μ Q := wp_of (by decide) h1 (by rw [ml_55]; exact h2) (fun h => by rw [ml_55]; exact vc1_snd ok_55 f (hw h))
theorem ml_56 : mL 56 = 1 := by decide +kernel
theorem wo_56 {as : List AV} {μ : Mem} {Q : Option AV → Mem → Prop} (stop : List Nat) (f : Nat) (h1 : as.all (fun v => !av2 v) = true) (h2 : as.length ≤ 1) (hw : (∀ v ∈ as, wfv v) → vc1 (AW 56 Q) Q T_56 stop f 0 (mkL as 1) [] μ) : wpM 56 as μ Q := wp_of (by decide) h1 (by rw [ml_56]; exact h2) (fun h => by rw [ml_56]; exact vc1_snd ok_56 f (hw h))
theorem ml_57 : mL 57 = 2 := by decide +kernel
theorem wo_57 {as : List AV} {μ : Mem} {Q : Option AV → Mem → Prop} (stop : List Nat) (f : Nat) (h1 : as.all (fun v => !av2 v) = true) (h2 : as.length ≤ 2) (hw : (∀ v ∈ as, wfv v) → vc1 (AW 57 Q) Q T_57 stop f 0 (mkL as 2) [] μ) : wpM 57 as μ Q := wp_of (by decide) h1 (by rw [ml_57]; exact h2) (fun h => by rw [ml_57]; exact vc1_snd ok_57 f (hw h))
theorem ml_58 : mL 58 = 4 := by decide +kernel
theorem wo_58 {as : List AV} {μ : Mem} {Q : Option AV → Mem → Prop} (stop : List Nat) (f : Nat) (h1 : as.all (fun v => !av2 v) = true) (h2 : as.length ≤ 4) (hw : (∀ v ∈ as, wfv v) → vc1 (AW 58 Q) Q T_58 stop f 0 (mkL as 4) [] μ) : wpM 58 as μ Q := wp_of (by decide) h1 (by rw [ml_58]; exact h2) (fun h => by rw [ml_58]; exact vc1_snd ok_58 f (hw h))
theorem ml_59 : mL 59 = 2 := by decide +kernel
theorem wo_59 {as : List AV} {μ : Mem} {Q : Option AV → Mem → Prop} (stop : List Nat) (f : Nat) (h1 : as.all (fun v => !av2 v) = true) (h2 : as.length ≤ 2) (hw : (∀ v ∈ as, wfv v) → vc1 (AW 59 Q) Q T_59 stop f 0 (mkL as 2) [] μ) : wpM 59 as μ Q := wp_of (by decide) h1 (by rw [ml_59]; exact h2) (fun h => by rw [ml_59]; exact vc1_snd ok_59 f (hw h))
theorem ml_60 : mL 60 = 1 := by decide +kernel
theorem wo_60 {as : List AV} {μ : Mem} {Q : Option AV → Mem → Prop} (stop : List Nat) (f : Nat) (h1 : as.all (fun v => !av2 v) = true) (h2 : as.length ≤ 1) (hw : (∀ v ∈ as, wfv v) → vc1 (AW 60 Q) Q T_60 stop f 0 (mkL as 1) [] μ) : wpM 60 as μ Q := wp_of (by decide) h1 (by rw [ml_60]; exact h2) (fun h => by rw [ml_60]; exact vc1_snd ok_60 f (hw h))
theorem ml_61 : mL 61 = 1 := by decide +kernel
theorem wo_61 {as : List AV} {μ : Mem} {Q : Option AV → Mem → Prop} (stop : List Nat) (f : Nat) (h1 : as.all (fun v => !av2 v) = true) (h2 : as.length ≤ 1) (hw : (∀ v ∈ as, wfv v) → vc1 (AW 61 Q) Q T_61 stop f 0 (mkL as 1) [] μ) : wpM 61 as μ Q := wp_of (by decide) h1 (by rw [ml_61]; exact h2) (fun h => by rw [ml_61]; exact vc1_snd ok_61 f (hw h))
theorem ml_62 : mL 62 = 3 := by decide +kernel
theorem wo_62 {as : List AV} {μ : Mem} {Q : Option AV → Mem → Prop} (stop : List Nat) (f : Nat) (h1 : as.all (fun v => !av2 v) = true) (h2 : as.length ≤ 3) (hw : (∀ v ∈ as, wfv v) → vc1 (AW 62 Q) Q T_62 stop f 0 (mkL as 3) [] μ) : wpM 62 as μ Q := wp_of (by decide) h1 (by rw [ml_62]; exact h2) (fun h => by rw [ml_62]; exact vc1_snd ok_62 f (hw h))
theorem ml_64 : mL 64 = 3 := by decide +kernel
theorem wo_64 {as : List AV} {μ : Mem} {Q : Option AV → Mem → Prop} (stop : List Nat) (f : Nat) (h1 : as.all (fun v => !av2 v) = true) (h2 : as.length ≤ 3) (hw : (∀ v ∈ as, wfv v) → vc1 (AW 64 Q) Q T_64 stop f 0 (mkL as 3) [] μ) : wpM 64 as μ Q := wp_of (by decide) h1 (by rw [ml_64]; exact h2) (fun h => by rw [ml_64]; exact vc1_snd ok_64 f (hw h))
theorem ml_65 : mL 65 = 3 := by decide +kernel
theorem wo_65 {as : List AV} {μ : Mem} {Q : Option AV → Mem → Prop} (stop : List Nat) (f : Nat) (h1 : as.all (fun v => !av2 v) = true) (h2 : as.length ≤ 3) (hw : (∀ v ∈ as, wfv v) → vc1 (AW 65 Q) Q T_65 stop f 0 (mkL as 3) [] μ) : wpM 65 as μ Q := wp_of (by decide) h1 (by rw [ml_65]; exact h2) (fun h => by rw [ml_65]; exact vc1_snd ok_65 f (hw h))
theorem ml_66 : mL 66 = 3 := by decide +kernel
theorem wo_66 {as : List AV} {μ : Mem} {Q : Option AV → Mem → Prop} (stop : List Nat) (f : Nat) (h1 : as.all (fun v => !av2 v) = true) (h2 : as.length ≤ 3) (hw : (∀ v ∈ as, wfv v) → vc1 (AW 66 Q) Q T_66 stop f 0 (mkL as 3) [] μ) : wpM 66 as μ Q := wp_of (by decide) h1 (by rw [ml_66]; exact h2) (fun h => by rw [ml_66]; exact vc1_snd ok_66 f (hw h))
theorem ml_68 : mL 68 = 3 := by decide +kernel
theorem wo_68 {as : List AV} {μ : Mem} {Q : Option AV → Mem → Prop} (stop : List Nat) (f : Nat) (h1 : as.all (fun v => !av2 v) = true) (h2 : as.length ≤ 3) (hw : (∀ v ∈ as, wfv v) → vc1 (AW 68 Q) Q T_68 stop f 0 (mkL as 3) [] μ) : wpM 68 as μ Q := wp_of (by decide) h1 (by rw [ml_68]; exact h2) (fun h => by rw [ml_68]; exact vc1_snd ok_68 f (hw h))
theorem ml_69 : mL 69 = 5 := by decide +kernel
theorem wo_69 {as : List AV} {μ : Mem} {Q : Option AV → Mem → Prop} (stop : List Nat) (f : Nat) (h1 : as.all (fun v => !av2 v) = true) (h2 : as.length ≤ 5) (hw : (∀ v ∈ as, wfv v) → vc1 (AW 69 Q) Q T_69 stop f 0 (mkL as 5) [] μ) : wpM 69 as μ Q := wp_of (by decide) h1 (by rw [ml_69]; exact h2) (fun h => by rw [ml_69]; exact vc1_snd ok_69 f (hw h))
theorem ml_70 : mL 70 = 1 := by decide +kernel
theorem wo_70 {as : List AV} {μ : Mem} {Q : Option AV → Mem → Prop} (stop : List Nat) (f : Nat) (h1 : as.all (fun v => !av2 v) = true) (h2 : as.length ≤ 1) (hw : (∀ v ∈ as, wfv v) → vc1 (AW 70 Q) Q T_70 stop f 0 (mkL as 1) [] μ) : wpM 70 as μ Q := wp_of (by decide) h1 (by rw [ml_70]; exact h2) (fun h => by rw [ml_70]; exact vc1_snd ok_70 f (hw h))
theorem ml_72 : mL 72 = 2 := by decide +kernel
theorem wo_72 {as : List AV} {μ : Mem} {Q : Option AV → Mem → Prop} (stop : List Nat) (f : Nat) (h1 : as.all (fun v => !av2 v) = true) (h2 : as.length ≤ 2) (hw : (∀ v ∈ as, wfv v) → vc1 (AW 72 Q) Q T_72 stop f 0 (mkL as 2) [] μ) : wpM 72 as μ Q := wp_of (by decide) h1 (by rw [ml_72]; exact h2) (fun h => by rw [ml_72]; exact vc1_snd ok_72 f (hw h))
theorem ml_73 : mL 73 = 2 := by decide +kernel
theorem wo_73 {as : List AV} {μ : Mem} {Q : Option AV → Mem → Prop} (stop : List Nat) (f : Nat) (h1 : as.all (fun v => !av2 v) = true) (h2 : as.length ≤ 2) (hw : (∀ v ∈ as, wfv v) → vc1 (AW 73 Q) Q T_73 stop f 0 (mkL as 2) [] μ) : wpM 73 as μ Q := wp_of (by decide) h1 (by rw [ml_73]; exact h2) (fun h => by rw [ml_73]; exact vc1_snd ok_73 f (hw h))
theorem ml_74 : mL 74 = 3 := by decide +kernel
theorem wo_74 {as : List AV} {μ : Mem} {Q : Option AV → Mem → Prop} (stop : List Nat) (f : Nat) (h1 : as.all (fun v => !av2 v) = true) (h2 : as.length ≤ 3) (hw : (∀ v ∈ as, wfv v) → vc1 (AW 74 Q) Q T_74 stop f 0 (mkL as 3) [] μ) : wpM 74 as μ Q := wp_of (by decide) h1 (by rw [ml_74]; exact h2) (fun h => by rw [ml_74]; exact vc1_snd ok_74 f (hw h))
theorem ml_75 : mL 75 = 2 := by decide +kernel
theorem wo_75 {as : List AV} {μ : Mem} {Q : Option AV → Mem → Prop} (stop : List Nat) (f : Nat) (h1 : as.all (fun v => !av2 v) = true) (h2 : as.length ≤ 2) (hw : (∀ v ∈ as, wfv v) → vc1 (AW 75 Q) Q T_75 stop f 0 (mkL as 2) [] μ) : wpM 75 as μ Q := wp_of (by decide) h1 (by rw [ml_75]; exact h2) (fun h => by rw [ml_75]; exact vc1_snd ok_75 f (hw h))
theorem ml_76 : mL 76 = 2 := by decide +kernel
theorem wo_76 {as : List AV} {μ : Mem} {Q : Option AV → Mem → Prop} (stop : List Nat) (f : Nat) (h1 : as.all (fun v => !av2 v) = true) (h2 : as.length ≤ 2) (hw : (∀ v ∈ as, wfv v) → vc1 (AW 76 Q) Q T_76 stop f 0 (mkL as 2) [] μ) : wpM 76 as μ Q := wp_of (by decide) h1 (by rw [ml_76]; exact h2) (fun h => by rw [ml_76]; exact vc1_snd ok_76 f (hw h))
theorem ml_78 : mL 78 = 1 := by decide +kernel
theorem wo_78 {as : List AV} {μ : Mem} {Q : Option AV → Mem → Prop} (stop : List Nat) (f : Nat) (h1 : as.all (fun v => !av2 v) = true) (h2 : as.length ≤ 1) (hw : (∀ v ∈ as, wfv v) → vc1 (AW 78 Q) Q T_78 stop f 0 (mkL as 1) [] μ) : wpM 78 as μ Q := wp_of (by decide) h1 (by rw [ml_78]; exact h2) (fun h => by rw [ml_78]; exact vc1_snd ok_78 f (hw h))
theorem ml_79 : mL 79 = 2 := by decide +kernel
theorem wo_79 {as : List AV} {μ : Mem} {Q : Option AV → Mem → Prop} (stop : List Nat) (f : Nat) (h1 : as.all (fun v => !av2 v) = true) (h2 : as.length ≤ 2) (hw : (∀ v ∈ as, wfv v) → vc1 (AW 79 Q) Q T_79 stop f 0 (mkL as 2) [] μ) : wpM 79 as μ Q := wp_of (by decide) h1 (by rw [ml_79]; exact h2) (fun h => by rw [ml_79]; exact vc1_snd ok_79 f (hw h))
theorem ml_94 : mL 94 = 2 := by decide +kernel
theorem wo_94 {as : List AV} {μ : Mem} {Q : Option AV → Mem → Prop} (stop : List Nat) (f : Nat) (h1 : as.all (fun v => !av2 v) = true) (h2 : as.length ≤ 2) (hw : (∀ v ∈ as, wfv v) → vc1 (AW 94 Q) Q T_94 stop f 0 (mkL as 2) [] μ) : wpM 94 as μ Q := wp_of (by decide) h1 (by rw [ml_94]; exact h2) (fun h => by rw [ml_94]; exact vc1_snd ok_94 f (hw h))
theorem ml_95 : mL 95 = 4 := by decide +kernel
theorem wo_95 {as : List AV} {μ : Mem} {Q : Option AV → Mem → Prop} (stop : List Nat) (f : Nat) (h1 : as.all (fun v => !av2 v) = true) (h2 : as.length ≤ 4) (hw : (∀ v ∈ as, wfv v) → vc1 (AW 95 Q) Q T_95 stop f 0 (mkL as 4) [] μ) : wpM 95 as μ Q := wp_of (by decide) h1 (by rw [ml_95]; exact h2) (fun h => by rw [ml_95]; exact vc1_snd ok_95 f (hw h))
theorem ml_96 : mL 96 = 2 := by decide +kernel
theorem wo_96 {as : List AV} {μ : Mem} {Q : Option AV → Mem → Prop} (stop : List Nat) (f : Nat) (h1 : as.all (fun v => !av2 v) = true) (h2 : as.length ≤ 2) (hw : (∀ v ∈ as, wfv v) → vc1 (AW 96 Q) Q T_96 stop f 0 (mkL as 2) [] μ) : wpM 96 as μ Q := wp_of (by decide) h1 (by rw [ml_96]; exact h2) (fun h => by rw [ml_96]; exact vc1_snd ok_96 f (hw h))
theorem ml_97 : mL 97 = 3 := by decide +kernel
theorem wo_97 {as : List AV} {μ : Mem} {Q : Option AV → Mem → Prop} (stop : List Nat) (f : Nat) (h1 : as.all (fun v => !av2 v) = true) (h2 : as.length ≤ 3) (hw : (∀ v ∈ as, wfv v) → vc1 (AW 97 Q) Q T_97 stop f 0 (mkL as 3) [] μ) : wpM 97 as μ Q := wp_of (by decide) h1 (by rw [ml_97]; exact h2) (fun h => by rw [ml_97]; exact vc1_snd ok_97 f (hw h))
theorem ml_98 : mL 98 = 4 := by decide +kernel
theorem wo_98 {as : List AV} {μ : Mem} {Q : Option AV → Mem → Prop} (stop : List Nat) (f : Nat) (h1 : as.all (fun v => !av2 v) = true) (h2 : as.length ≤ 4) (hw : (∀ v ∈ as, wfv v) → vc1 (AW 98 Q) Q T_98 stop f 0 (mkL as 4) [] μ) : wpM 98 as μ Q := wp_of (by decide) h1 (by rw [ml_98]; exact h2) (fun h => by rw [ml_98]; exact vc1_snd ok_98 f (hw h))
theorem ml_99 : mL 99 = 3 := by decide +kernel
theorem wo_99 {as : List AV} {μ : Mem} {Q : Option AV → Mem → Prop} (stop : List Nat) (f : Nat) (h1 : as.all (fun v => !av2 v) = true) (h2 : as.length ≤ 3) (hw : (∀ v ∈ as, wfv v) → vc1 (AW 99 Q) Q T_99 stop f 0 (mkL as 3) [] μ) : wpM 99 as μ Q := wp_of (by decide) h1 (by rw [ml_99]; exact h2) (fun h => by rw [ml_99]; exact vc1_snd ok_99 f (hw h))
theorem ml_100 : mL 100 = 4 := by decide +kernel
theorem wo_100 {as : List AV} {μ : Mem} {Q : Option AV → Mem → Prop} (stop : List Nat) (f : Nat) (h1 : as.all (fun v => !av2 v) = true) (h2 : as.length ≤ 4) (hw : (∀ v ∈ as, wfv v) → vc1 (AW 100 Q) Q T_100 stop f 0 (mkL as 4) [] μ) : wpM 100 as μ Q := wp_of (by decide) h1 (by rw [ml_100]; exact h2) (fun h => by rw [ml_100]; exact vc1_snd ok_100 f (hw h))
theorem ml_101 : mL 101 = 1 := by decide +kernel
theorem wo_101 {as : List AV} {μ : Mem} {Q : Option AV → Mem → Prop} (stop : List Nat) (f : Nat) (h1 : as.all (fun v => !av2 v) = true) (h2 : as.length ≤ 1) (hw : (∀ v ∈ as, wfv v) → vc1 (AW 101 Q) Q T_101 stop f 0 (mkL as 1) [] μ) : wpM 101 as μ Q := wp_of (by decide) h1 (by rw [ml_101]; exact h2) (fun h => by rw [ml_101]; exact vc1_snd ok_101 f (hw h))
theorem ml_102 : mL 102 = 3 := by decide +kernel
theorem wo_102 {as : List AV} {μ : Mem} {Q : Option AV → Mem → Prop} (stop : List Nat) (f : Nat) (h1 : as.all (fun v => !av2 v) = true) (h2 : as.length ≤ 3) (hw : (∀ v ∈ as, wfv v) → vc1 (AW 102 Q) Q T_102 stop f 0 (mkL as 3) [] μ) : wpM 102 as μ Q := wp_of (by decide) h1 (by rw [ml_102]; exact h2) (fun h => by rw [ml_102]; exact vc1_snd ok_102 f (hw h))
theorem ml_103 : mL 103 = 3 := by decide +kernel
theorem wo_103 {as : List AV} {μ : Mem} {Q : Option AV → Mem → Prop} (stop : List Nat) (f : Nat) (h1 : as.all (fun v => !av2 v) = true) (h2 : as.length ≤ 3) (hw : (∀ v ∈ as, wfv v) → vc1 (AW 103 Q) Q T_103 stop f 0 (mkL as 3) [] μ) : wpM 103 as μ Q := wp_of (by decide) h1 (by rw [ml_103]; exact h2) (fun h => by rw [ml_103]; exact vc1_snd ok_103 f (hw h))
theorem ml_104 : mL 104 = 3 := by decide +kernel
theorem wo_104 {as : List AV} {μ : Mem} {Q : Option AV → Mem → Prop} (stop : List Nat) (f : Nat) (h1 : as.all (fun v => !av2 v) = true) (h2 : as.length ≤ 3) (hw : (∀ v ∈ as, wfv v) → vc1 (AW 104 Q) Q T_104 stop f 0 (mkL as 3) [] μ) : wpM 104 as μ Q := wp_of (by decide) h1 (by rw [ml_104]; exact h2) (fun h => by rw [ml_104]; exact vc1_snd ok_104 f (hw h))
theorem ml_105 : mL 105 = 2 := by decide +kernel
theorem wo_105 {as : List AV} {μ : Mem} {Q : Option AV → Mem → Prop} (stop : List Nat) (f : Nat) (h1 : as.all (fun v => !av2 v) = true) (h2 : as.length ≤ 2) (hw : (∀ v ∈ as, wfv v) → vc1 (AW 105 Q) Q T_105 stop f 0 (mkL as 2) [] μ) : wpM 105 as μ Q := wp_of (by decide) h1 (by rw [ml_105]; exact h2) (fun h => by rw [ml_105]; exact vc1_snd ok_105 f (hw h))
theorem ml_106 : mL 106 = 3 := by decide +kernel
theorem wo_106 {as : List AV} {μ : Mem} {Q : Option AV → Mem → Prop} (stop : List Nat) (f : Nat) (h1 : as.all (fun v => !av2 v) = true) (h2 : as.length ≤ 3) (hw : (∀ v ∈ as, wfv v) → vc1 (AW 106 Q) Q T_106 stop f 0 (mkL as 3) [] μ) : wpM 106 as μ Q := wp_of (by decide) h1 (by rw [ml_106]; exact h2) (fun h => by rw [ml_106]; exact vc1_snd ok_106 f (hw h))
theorem ml_107 : mL 107 = 2 := by decide +kernel
theorem wo_107 {as : List AV} {μ : Mem} {Q : Option AV → Mem → Prop} (stop : List Nat) (f : Nat) (h1 : as.all (fun v => !av2 v) = true) (h2 : as.length ≤ 2) (hw : (∀ v ∈ as, wfv v) → vc1 (AW 107 Q) Q T_107 stop f 0 (mkL as 2) [] μ) : wpM 107 as μ Q := wp_of (by decide) h1 (by rw [ml_107]; exact h2) (fun h => by rw [ml_107]; exact vc1_snd ok_107 f (hw h))
theorem ml_108 : mL 108 = 2 := by decide +kernel
theorem wo_108 {as : List AV} {μ : Mem} {Q : Option AV → Mem → Prop} (stop : List Nat) (f : Nat) (h1 : as.all (fun v => !av2 v) = true) (h2 : as.length ≤ 2) (hw : (∀ v ∈ as, wfv v) → vc1 (AW 108 Q) Q T_108 stop f 0 (mkL as 2) [] μ) : wpM 108 as μ Q := wp_of (by decide) h1 (by rw [ml_108]; exact h2) (fun h => by rw [ml_108]; exact vc1_snd ok_108 f (hw h))
theorem ml_109 : mL 109 = 3 := by decide +kernel
theorem wo_109 {as : List AV} {μ : Mem} {Q : Option AV → Mem → Prop} (stop : List Nat) (f : Nat) (h1 : as.all (fun v => !av2 v) = true) (h2 : as.length ≤ 3) (hw : (∀ v ∈ as, wfv v) → vc1 (AW 109 Q) Q T_109 stop f 0 (mkL as 3) [] μ) : wpM 109 as μ Q := wp_of (by decide) h1 (by rw [ml_109]; exact h2) (fun h => by rw [ml_109]; exact vc1_snd ok_109 f (hw h))
theorem ml_110 : mL 110 = 2 := by decide +kernel
theorem wo_110 {as : List AV} {μ : Mem} {Q : Option AV → Mem → Prop} (stop : List Nat) (f : Nat) (h1 : as.all (fun v => !av2 v) = true) (h2 : as.length ≤ 2) (hw : (∀ v ∈ as, wfv v) → vc1 (AW 110 Q) Q T_110 stop f 0 (mkL as 2) [] μ) : wpM 110 as μ Q := wp_of (by decide) h1 (by rw [ml_110]; exact h2) (fun h => by rw [ml_110]; exact vc1_snd ok_110 f (hw h))
theorem ml_111 : mL 111 = 1 := by decide +kernel
theorem wo_111 {as : List AV} {μ : Mem} {Q : Option AV → Mem → Prop} (stop : List Nat) (f : Nat) (h1 : as.all (fun v => !av2 v) = true) (h2 : as.length ≤ 1) (hw : (∀ v ∈ as, wfv v) → vc1 (AW 111 Q) Q T_111 stop f 0 (mkL as 1) [] μ) : wpM 111 as μ Q := wp_of (by decide) h1 (by rw [ml_111]; exact h2) (fun h => by rw [ml_111]; exact vc1_snd ok_111 f (hw h))
theorem ml_112 : mL 112 = 2 := by decide +kernel
theorem wo_112 {as : List AV} {μ : Mem} {Q : Option AV → Mem → Prop} (stop : List Nat) (f : Nat) (h1 : as.all (fun v => !av2 v) = true) (h2 : as.length ≤ 2) (hw : (∀ v ∈ as, wfv v) → vc1 (AW 112 Q) Q T_112 stop f 0 (mkL as 2) [] μ) : wpM 112 as μ Q := wp_of (by decide) h1 (by rw [ml_112]; exact h2) (fun h => by rw [ml_112]; exact vc1_snd ok_112 f (hw h))
theorem ml_114 : mL 114 = 2 := by decide +kernel
theorem wo_114 {as : List AV} {μ : Mem} {Q : Option AV → Mem → Prop} (stop : List Nat) (f : Nat) (h1 : as.all (fun v => !av2 v) = true) (h2 : as.length ≤ 2) (hw : (∀ v ∈ as, wfv v) → vc1 (AW 114 Q) Q T_114 stop f 0 (mkL as 2) [] μ) : wpM 114 as μ Q := wp_of (by decide) h1 (by rw [ml_114]; exact h2) (fun h => by rw [ml_114]; exact vc1_snd ok_114 f (hw h))
theorem ml_117 : mL 117 = 1 := by decide +kernel
theorem wo_117 {as : List AV} {μ : Mem} {Q : Option AV → Mem → Prop} (stop : List Nat) (f : Nat) (h1 : as.all (fun v => !av2 v) = true) (h2 : as.length ≤ 1) (hw : (∀ v ∈ as, wfv v) → vc1 (AW 117 Q) Q T_117 stop f 0 (mkL as 1) [] μ) : wpM 117 as μ Q := wp_of (by decide) h1 (by rw [ml_117]; exact h2) (fun h => by rw [ml_117]; exact vc1_snd ok_117 f (hw h))
theorem ml_118 : mL 118 = 5 := by decide +kernel
theorem wo_118 {as : List AV} {μ : Mem} {Q : Option AV → Mem → Prop} (stop : List Nat) (f : Nat) (h1 : as.all (fun v => !av2 v) = true) (h2 : as.length ≤ 5) (hw : (∀ v ∈ as, wfv v) → vc1 (AW 118 Q) Q T_118 stop f 0 (mkL as 5) [] μ) : wpM 118 as μ Q := wp_of (by decide) h1 (by rw [ml_118]; exact h2) (fun h => by rw [ml_118]; exact vc1_snd ok_118 f (hw h))
theorem ml_120 : mL 120 = 1 := by decide +kernel
theorem wo_120 {as : List AV} {μ : Mem} {Q : Option AV → Mem → Prop} (stop : List Nat) (f : Nat) (h1 : as.all (fun v => !av2 v) = true) (h2 : as.length ≤ 1) (hw : (∀ v ∈ as, wfv v) → vc1 (AW 120 Q) Q T_120 stop f 0 (mkL as 1) [] μ) : wpM 120 as μ Q := wp_of (by decide) h1 (by rw [ml_120]; exact h2) (fun h => by rw [ml_120]; exact vc1_snd ok_120 f (hw h))
theorem ml_121 : mL 121 = 1 := by decide +kernel
theorem wo_121 {as : List AV} {μ : Mem} {Q : Option AV → Mem → Prop} (stop : List Nat) (f : Nat) (h1 : as.all (fun v => !av2 v) = true) (h2 : as.length ≤ 1) (hw : (∀ v ∈ as, wfv v) → vc1 (AW 121 Q) Q T_121 stop f 0 (mkL as 1) [] μ) : wpM 121 as μ Q := wp_of (by decide) h1 (by rw [ml_121]; exact h2) (fun h => by rw [ml_121]; exact vc1_snd ok_121 f (hw h))
theorem ml_122 : mL 122 = 1 := by decide +kernel
theorem wo_122 {as : List AV} {μ : Mem} {Q : Option AV → Mem → Prop} (stop : List Nat) (f : Nat) (h1 : as.all (fun v => !av2 v) = true) (h2 : as.length ≤ 1) (hw : (∀ v ∈ as, wfv v) → vc1 (AW 122 Q) Q T_122 stop f 0 (mkL as 1) [] μ) : wpM 122 as μ Q := wp_of (by decide) h1 (by rw [ml_122]; exact h2) (fun h => by rw [ml_122]; exact vc1_snd ok_122 f (hw h))
