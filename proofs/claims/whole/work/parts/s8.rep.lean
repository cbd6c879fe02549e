/-! ===== LEVEL 3: an act done again (printed by gen3/s8gen.py) ===== -/
section
variable {q : Nat} {s t : ev_M} {F : Bool} {A : Nat → Nat → Int32}
theorem rp_1 (hq : q < 832100) (hA : AdmC s F A) (hM : FulM t F) (h0 : t.1 549 15 = 0) (hx : rdT (cI 1) → RTx4 s t) (hR : RH q s t) (h1 : s.1 9 14 = cI 1) (h2 : t.1 549 16 = cI 1) (ha : ArgE (cI 1) (s.1 14) (t.1 553)) : Ok (fPH_act_4 s) fun x => Ok (fM_act t) fun y => AP (RH (q + 1)) (RH (q + 1)) F A s x y := by
  rw [dd_1 h1, dm_1 h2]
  exact ac_1_4 hq hA hM h0 (hx (by decide)) hR
theorem rp_2 (hq : q < 832100) (hA : AdmC s F A) (hM : FulM t F) (h0 : t.1 549 15 = 0) (hx : rdT (cI 2) → RTx4 s t) (hR : RH q s t) (h1 : s.1 9 14 = cI 2) (h2 : t.1 549 16 = cI 2) (ha : ArgE (cI 2) (s.1 14) (t.1 553)) : Ok (fPH_act_4 s) fun x => Ok (fM_act t) fun y => AP (RH (q + 1)) (RH (q + 1)) F A s x y := by
  rw [dd_2 h1, dm_2 h2, ha 0 (by decide), ha 1 (by decide), ha 2 (by decide), ha 3 (by decide)]
  exact ac_2 hq hA hM h0 hR
theorem rp_3 (hq : q < 832100) (hA : AdmC s F A) (hM : FulM t F) (h0 : t.1 549 15 = 0) (hx : rdT (cI 3) → RTx4 s t) (hR : RH q s t) (h1 : s.1 9 14 = cI 3) (h2 : t.1 549 16 = cI 3) (ha : ArgE (cI 3) (s.1 14) (t.1 553)) : Ok (fPH_act_4 s) fun x => Ok (fM_act t) fun y => AP (RH (q + 1)) (RH (q + 1)) F A s x y := by
  rw [dd_3 h1, dm_3 h2, ha 0 (by decide), ha 1 (by decide), ha 2 (by decide)]
  exact ac_3 hq hA hM h0 hR
theorem rp_4 (hq : q < 832100) (hA : AdmC s F A) (hM : FulM t F) (h0 : t.1 549 15 = 0) (hx : rdT (cI 4) → RTx4 s t) (hR : RH q s t) (h1 : s.1 9 14 = cI 4) (h2 : t.1 549 16 = cI 4) (ha : ArgE (cI 4) (s.1 14) (t.1 553)) : Ok (fPH_act_4 s) fun x => Ok (fM_act t) fun y => AP (RH (q + 1)) (RH (q + 1)) F A s x y := by
  rw [dd_4 h1, dm_4 h2, ha 0 (by decide)]
  exact ac_4_4 hq hA hM h0 (hx (by decide)) hR
theorem rp_5 (hq : q < 832100) (hA : AdmC s F A) (hM : FulM t F) (h0 : t.1 549 15 = 0) (hx : rdT (cI 5) → RTx4 s t) (hR : RH q s t) (h1 : s.1 9 14 = cI 5) (h2 : t.1 549 16 = cI 5) (ha : ArgE (cI 5) (s.1 14) (t.1 553)) : Ok (fPH_act_4 s) fun x => Ok (fM_act t) fun y => AP (RH (q + 1)) (RH (q + 1)) F A s x y := by
  rw [dd_5 h1, dm_5 h2, ha 0 (by decide), ha 1 (by decide), ha 2 (by decide), ha 3 (by decide), ha 4 (by decide), ha 5 (by decide)]
  exact ac_5 hq hA hM h0 hR
theorem rp_6 (hq : q < 832100) (hA : AdmC s F A) (hM : FulM t F) (h0 : t.1 549 15 = 0) (hx : rdT (cI 6) → RTx4 s t) (hR : RH q s t) (h1 : s.1 9 14 = cI 6) (h2 : t.1 549 16 = cI 6) (ha : ArgE (cI 6) (s.1 14) (t.1 553)) : Ok (fPH_act_4 s) fun x => Ok (fM_act t) fun y => AP (RH (q + 1)) (RH (q + 1)) F A s x y := by
  rw [dd_6 h1, dm_6 h2, ha 0 (by decide), ha 1 (by decide)]
  exact ac_6 hq hA hM h0 hR
theorem rp_7 (hq : q < 832100) (hA : AdmC s F A) (hM : FulM t F) (h0 : t.1 549 15 = 0) (hx : rdT (cI 7) → RTx4 s t) (hR : RH q s t) (h1 : s.1 9 14 = cI 7) (h2 : t.1 549 16 = cI 7) (ha : ArgE (cI 7) (s.1 14) (t.1 553)) : Ok (fPH_act_4 s) fun x => Ok (fM_act t) fun y => AP (RH (q + 1)) (RH (q + 1)) F A s x y := by
  rw [dd_7 h1, dm_7 h2, ha 0 (by decide)]
  exact ac_7 hq hA hM h0 hR
theorem rp_8 (hq : q < 832100) (hA : AdmC s F A) (hM : FulM t F) (h0 : t.1 549 15 = 0) (hx : rdT (cI 8) → RTx4 s t) (hR : RH q s t) (h1 : s.1 9 14 = cI 8) (h2 : t.1 549 16 = cI 8) (ha : ArgE (cI 8) (s.1 14) (t.1 553)) : Ok (fPH_act_4 s) fun x => Ok (fM_act t) fun y => AP (RH (q + 1)) (RH (q + 1)) F A s x y := by
  rw [dd_8 h1, dm_8 h2, ha 0 (by decide), ha 1 (by decide), ha 2 (by decide)]
  exact ac_8 hq hA hM h0 hR
theorem rp_9 (hq : q < 832100) (hA : AdmC s F A) (hM : FulM t F) (h0 : t.1 549 15 = 0) (hx : rdT (cI 9) → RTx4 s t) (hR : RH q s t) (h1 : s.1 9 14 = cI 9) (h2 : t.1 549 16 = cI 9) (ha : ArgE (cI 9) (s.1 14) (t.1 553)) : Ok (fPH_act_4 s) fun x => Ok (fM_act t) fun y => AP (RH (q + 1)) (RH (q + 1)) F A s x y := by
  rw [dd_9 h1, dm_9 h2, ha 0 (by decide), ha 1 (by decide)]
  exact ac_9 hq hA hM h0 hR
theorem rp_10 (hq : q < 832100) (hA : AdmC s F A) (hM : FulM t F) (h0 : t.1 549 15 = 0) (hx : rdT (cI 10) → RTx4 s t) (hR : RH q s t) (h1 : s.1 9 14 = cI 10) (h2 : t.1 549 16 = cI 10) (ha : ArgE (cI 10) (s.1 14) (t.1 553)) : Ok (fPH_act_4 s) fun x => Ok (fM_act t) fun y => AP (RH (q + 1)) (RH (q + 1)) F A s x y := by
  rw [dd_10 h1, dm_10 h2, ha 0 (by decide), ha 1 (by decide), ha 2 (by decide), ha 3 (by decide)]
  exact ac_10 hq hA hM h0 hR
theorem rp_11 (hq : q < 832100) (hA : AdmC s F A) (hM : FulM t F) (h0 : t.1 549 15 = 0) (hx : rdT (cI 11) → RTx4 s t) (hR : RH q s t) (h1 : s.1 9 14 = cI 11) (h2 : t.1 549 16 = cI 11) (ha : ArgE (cI 11) (s.1 14) (t.1 553)) : Ok (fPH_act_4 s) fun x => Ok (fM_act t) fun y => AP (RH (q + 1)) (RH (q + 1)) F A s x y := by
  rw [dd_11 h1, dm_11 h2, ha 0 (by decide), ha 1 (by decide), ha 2 (by decide)]
  exact ac_11 hq hA hM h0 hR
theorem rp_12 (hq : q < 832100) (hA : AdmC s F A) (hM : FulM t F) (h0 : t.1 549 15 = 0) (hx : rdT (cI 12) → RTx4 s t) (hR : RH q s t) (h1 : s.1 9 14 = cI 12) (h2 : t.1 549 16 = cI 12) (ha : ArgE (cI 12) (s.1 14) (t.1 553)) : Ok (fPH_act_4 s) fun x => Ok (fM_act t) fun y => AP (RH (q + 1)) (RH (q + 1)) F A s x y := by
  rw [dd_12 h1, dm_12 h2, ha 0 (by decide), ha 1 (by decide)]
  exact ac_12 hq hA hM h0 hR
theorem rp_13 (hq : q < 832100) (hA : AdmC s F A) (hM : FulM t F) (h0 : t.1 549 15 = 0) (hx : rdT (cI 13) → RTx4 s t) (hR : RH q s t) (h1 : s.1 9 14 = cI 13) (h2 : t.1 549 16 = cI 13) (ha : ArgE (cI 13) (s.1 14) (t.1 553)) : Ok (fPH_act_4 s) fun x => Ok (fM_act t) fun y => AP (RH (q + 1)) (RH (q + 1)) F A s x y := by
  rw [dd_13 h1, dm_13 h2, ha 0 (by decide)]
  exact ac_13 hq hA hM h0 hR
theorem rp_14 (hq : q < 832100) (hA : AdmC s F A) (hM : FulM t F) (h0 : t.1 549 15 = 0) (hx : rdT (cI 14) → RTx4 s t) (hR : RH q s t) (h1 : s.1 9 14 = cI 14) (h2 : t.1 549 16 = cI 14) (ha : ArgE (cI 14) (s.1 14) (t.1 553)) : Ok (fPH_act_4 s) fun x => Ok (fM_act t) fun y => AP (RH (q + 1)) (RH (q + 1)) F A s x y := by
  rw [dd_14 h1, dm_14 h2, ha 0 (by decide)]
  exact ac_14 hq hA hM h0 hR
theorem rp_15 (hq : q < 832100) (hA : AdmC s F A) (hM : FulM t F) (h0 : t.1 549 15 = 0) (hx : rdT (cI 15) → RTx4 s t) (hR : RH q s t) (h1 : s.1 9 14 = cI 15) (h2 : t.1 549 16 = cI 15) (ha : ArgE (cI 15) (s.1 14) (t.1 553)) : Ok (fPH_act_4 s) fun x => Ok (fM_act t) fun y => AP (RH (q + 1)) (RH (q + 1)) F A s x y := by
  rw [dd_15 h1, dm_15 h2, ha 0 (by decide)]
  exact ac_15 hq hA hM h0 hR
theorem rp_16 (hq : q < 832100) (hA : AdmC s F A) (hM : FulM t F) (h0 : t.1 549 15 = 0) (hx : rdT (cI 16) → RTx4 s t) (hR : RH q s t) (h1 : s.1 9 14 = cI 16) (h2 : t.1 549 16 = cI 16) (ha : ArgE (cI 16) (s.1 14) (t.1 553)) : Ok (fPH_act_4 s) fun x => Ok (fM_act t) fun y => AP (RH (q + 1)) (RH (q + 1)) F A s x y := by
  rw [dd_16 h1, dm_16 h2, ha 0 (by decide), ha 1 (by decide), ha 2 (by decide), ha 3 (by decide), ha 4 (by decide)]
  exact ac_16 hq hA hM h0 hR
theorem rp_17 (hq : q < 832100) (hA : AdmC s F A) (hM : FulM t F) (h0 : t.1 549 15 = 0) (hx : rdT (cI 17) → RTx4 s t) (hR : RH q s t) (h1 : s.1 9 14 = cI 17) (h2 : t.1 549 16 = cI 17) (ha : ArgE (cI 17) (s.1 14) (t.1 553)) : Ok (fPH_act_4 s) fun x => Ok (fM_act t) fun y => AP (RH (q + 1)) (RH (q + 1)) F A s x y := by
  rw [dd_17 h1, dm_17 h2, ha 0 (by decide), ha 1 (by decide)]
  exact ac_17 hq hA hM h0 hR
theorem rp_18 (hq : q < 832100) (hA : AdmC s F A) (hM : FulM t F) (h0 : t.1 549 15 = 0) (hx : rdT (cI 18) → RTx4 s t) (hR : RH q s t) (h1 : s.1 9 14 = cI 18) (h2 : t.1 549 16 = cI 18) (ha : ArgE (cI 18) (s.1 14) (t.1 553)) : Ok (fPH_act_4 s) fun x => Ok (fM_act t) fun y => AP (RH (q + 1)) (RH (q + 1)) F A s x y := by
  rw [dd_18 h1, dm_18 h2, ha 0 (by decide), ha 1 (by decide)]
  exact ac_18 hq hA hM h0 hR
theorem rp_19 (hq : q < 832100) (hA : AdmC s F A) (hM : FulM t F) (h0 : t.1 549 15 = 0) (hx : rdT (cI 19) → RTx4 s t) (hR : RH q s t) (h1 : s.1 9 14 = cI 19) (h2 : t.1 549 16 = cI 19) (ha : ArgE (cI 19) (s.1 14) (t.1 553)) : Ok (fPH_act_4 s) fun x => Ok (fM_act t) fun y => AP (RH (q + 1)) (RH (q + 1)) F A s x y := by
  rw [dd_19 h1, dm_19 h2, ha 0 (by decide), ha 1 (by decide)]
  exact ac_19 hq hA hM h0 hR
theorem rp_20 (hq : q < 832100) (hA : AdmC s F A) (hM : FulM t F) (h0 : t.1 549 15 = 0) (hx : rdT (cI 20) → RTx4 s t) (hR : RH q s t) (h1 : s.1 9 14 = cI 20) (h2 : t.1 549 16 = cI 20) (ha : ArgE (cI 20) (s.1 14) (t.1 553)) : Ok (fPH_act_4 s) fun x => Ok (fM_act t) fun y => AP (RH (q + 1)) (RH (q + 1)) F A s x y := by
  rw [dd_20 h1, dm_20 h2, ha 0 (by decide)]
  exact ac_20 hq hA hM h0 hR
theorem rp_21 (hq : q < 832100) (hA : AdmC s F A) (hM : FulM t F) (h0 : t.1 549 15 = 0) (hx : rdT (cI 21) → RTx4 s t) (hR : RH q s t) (h1 : s.1 9 14 = cI 21) (h2 : t.1 549 16 = cI 21) (ha : ArgE (cI 21) (s.1 14) (t.1 553)) : Ok (fPH_act_4 s) fun x => Ok (fM_act t) fun y => AP (RH (q + 1)) (RH (q + 1)) F A s x y := by
  rw [dd_21 h1, dm_21 h2, ha 0 (by decide)]
  exact ac_21 hq hA hM h0 hR
theorem rp_22 (hq : q < 832100) (hA : AdmC s F A) (hM : FulM t F) (h0 : t.1 549 15 = 0) (hx : rdT (cI 22) → RTx4 s t) (hR : RH q s t) (h1 : s.1 9 14 = cI 22) (h2 : t.1 549 16 = cI 22) (ha : ArgE (cI 22) (s.1 14) (t.1 553)) : Ok (fPH_act_4 s) fun x => Ok (fM_act t) fun y => AP (RH (q + 1)) (RH (q + 1)) F A s x y := by
  rw [dd_22 h1, dm_22 h2, ha 0 (by decide), ha 1 (by decide), ha 2 (by decide), ha 3 (by decide)]
  exact ac_22 hq hA hM h0 hR
theorem rp_23 (hq : q < 832100) (hA : AdmC s F A) (hM : FulM t F) (h0 : t.1 549 15 = 0) (hx : rdT (cI 23) → RTx4 s t) (hR : RH q s t) (h1 : s.1 9 14 = cI 23) (h2 : t.1 549 16 = cI 23) (ha : ArgE (cI 23) (s.1 14) (t.1 553)) : Ok (fPH_act_4 s) fun x => Ok (fM_act t) fun y => AP (RH (q + 1)) (RH (q + 1)) F A s x y := by
  rw [dd_23 h1, dm_23 h2, ha 0 (by decide)]
  exact ac_23 hq hA hM h0 hR
theorem rp_24 (hq : q < 832100) (hA : AdmC s F A) (hM : FulM t F) (h0 : t.1 549 15 = 0) (hx : rdT (cI 24) → RTx4 s t) (hR : RH q s t) (h1 : s.1 9 14 = cI 24) (h2 : t.1 549 16 = cI 24) (ha : ArgE (cI 24) (s.1 14) (t.1 553)) : Ok (fPH_act_4 s) fun x => Ok (fM_act t) fun y => AP (RH (q + 1)) (RH (q + 1)) F A s x y := by
  rw [dd_24 h1, dm_24 h2, ha 0 (by decide)]
  exact ac_24 hq hA hM h0 hR
theorem rp_25 (hq : q < 832100) (hA : AdmC s F A) (hM : FulM t F) (h0 : t.1 549 15 = 0) (hx : rdT (cI 25) → RTx4 s t) (hR : RH q s t) (h1 : s.1 9 14 = cI 25) (h2 : t.1 549 16 = cI 25) (ha : ArgE (cI 25) (s.1 14) (t.1 553)) : Ok (fPH_act_4 s) fun x => Ok (fM_act t) fun y => AP (RH (q + 1)) (RH (q + 1)) F A s x y := by
  rw [dd_25 h1, dm_25 h2, ha 0 (by decide), ha 1 (by decide)]
  exact ac_25 hq hA hM h0 hR
theorem rp_26 (hq : q < 832100) (hA : AdmC s F A) (hM : FulM t F) (h0 : t.1 549 15 = 0) (hx : rdT (cI 26) → RTx4 s t) (hR : RH q s t) (h1 : s.1 9 14 = cI 26) (h2 : t.1 549 16 = cI 26) (ha : ArgE (cI 26) (s.1 14) (t.1 553)) : Ok (fPH_act_4 s) fun x => Ok (fM_act t) fun y => AP (RH (q + 1)) (RH (q + 1)) F A s x y := by
  rw [dd_26 h1, dm_26 h2, ha 0 (by decide), ha 1 (by decide), ha 2 (by decide), ha 3 (by decide)]
  exact ac_26 hq hA hM h0 hR
theorem rp_27 (hq : q < 832100) (hA : AdmC s F A) (hM : FulM t F) (h0 : t.1 549 15 = 0) (hx : rdT (cI 27) → RTx4 s t) (hR : RH q s t) (h1 : s.1 9 14 = cI 27) (h2 : t.1 549 16 = cI 27) (ha : ArgE (cI 27) (s.1 14) (t.1 553)) : Ok (fPH_act_4 s) fun x => Ok (fM_act t) fun y => AP (RH (q + 1)) (RH (q + 1)) F A s x y := by
  rw [dd_27 h1, dm_27 h2, ha 0 (by decide), ha 1 (by decide)]
  exact ac_27 hq hA hM h0 hR
theorem rp_28 (hq : q < 832100) (hA : AdmC s F A) (hM : FulM t F) (h0 : t.1 549 15 = 0) (hx : rdT (cI 28) → RTx4 s t) (hR : RH q s t) (h1 : s.1 9 14 = cI 28) (h2 : t.1 549 16 = cI 28) (ha : ArgE (cI 28) (s.1 14) (t.1 553)) : Ok (fPH_act_4 s) fun x => Ok (fM_act t) fun y => AP (RH (q + 1)) (RH (q + 1)) F A s x y := by
  rw [dd_28 h1, dm_28 h2, ha 0 (by decide)]
  exact ac_28 hq hA hM h0 hR
theorem rp_29 (hq : q < 832100) (hA : AdmC s F A) (hM : FulM t F) (h0 : t.1 549 15 = 0) (hx : rdT (cI 29) → RTx4 s t) (hR : RH q s t) (h1 : s.1 9 14 = cI 29) (h2 : t.1 549 16 = cI 29) (ha : ArgE (cI 29) (s.1 14) (t.1 553)) : Ok (fPH_act_4 s) fun x => Ok (fM_act t) fun y => AP (RH (q + 1)) (RH (q + 1)) F A s x y := by
  rw [dd_29 h1, dm_29 h2, ha 0 (by decide)]
  exact ac_29 hq hA hM h0 hR
theorem rp_30 (hq : q < 832100) (hA : AdmC s F A) (hM : FulM t F) (h0 : t.1 549 15 = 0) (hx : rdT (cI 30) → RTx4 s t) (hR : RH q s t) (h1 : s.1 9 14 = cI 30) (h2 : t.1 549 16 = cI 30) (ha : ArgE (cI 30) (s.1 14) (t.1 553)) : Ok (fPH_act_4 s) fun x => Ok (fM_act t) fun y => AP (RH (q + 1)) (RH (q + 1)) F A s x y := by
  rw [dd_30 h1, dm_30 h2, ha 0 (by decide), ha 1 (by decide)]
  exact ac_30 hq hA hM h0 hR
theorem rp_31 (hq : q < 832100) (hA : AdmC s F A) (hM : FulM t F) (h0 : t.1 549 15 = 0) (hx : rdT (cI 31) → RTx4 s t) (hR : RH q s t) (h1 : s.1 9 14 = cI 31) (h2 : t.1 549 16 = cI 31) (ha : ArgE (cI 31) (s.1 14) (t.1 553)) : Ok (fPH_act_4 s) fun x => Ok (fM_act t) fun y => AP (RH (q + 1)) (RH (q + 1)) F A s x y := by
  rw [dd_31 h1, dm_31 h2]
  exact ac_31_4 hq hA hM h0 (hx (by decide)) hR
theorem rp_32 (hq : q < 832100) (hA : AdmC s F A) (hM : FulM t F) (h0 : t.1 549 15 = 0) (hx : rdT (cI 32) → RTx4 s t) (hR : RH q s t) (h1 : s.1 9 14 = cI 32) (h2 : t.1 549 16 = cI 32) (ha : ArgE (cI 32) (s.1 14) (t.1 553)) : Ok (fPH_act_4 s) fun x => Ok (fM_act t) fun y => AP (RH (q + 1)) (RH (q + 1)) F A s x y := by
  rw [dd_32 h1, dm_32 h2, ha 0 (by decide)]
  exact ac_32 hq hA hM h0 hR
theorem rp_33 (hq : q < 832100) (hA : AdmC s F A) (hM : FulM t F) (h0 : t.1 549 15 = 0) (hx : rdT (cI 33) → RTx4 s t) (hR : RH q s t) (h1 : s.1 9 14 = cI 33) (h2 : t.1 549 16 = cI 33) (ha : ArgE (cI 33) (s.1 14) (t.1 553)) : Ok (fPH_act_4 s) fun x => Ok (fM_act t) fun y => AP (RH (q + 1)) (RH (q + 1)) F A s x y := by
  rw [dd_33 h1, dm_33 h2, ha 0 (by decide), ha 1 (by decide), ha 2 (by decide)]
  exact ac_33 hq hA hM h0 hR
theorem rp_34 (hq : q < 832100) (hA : AdmC s F A) (hM : FulM t F) (h0 : t.1 549 15 = 0) (hx : rdT (cI 34) → RTx4 s t) (hR : RH q s t) (h1 : s.1 9 14 = cI 34) (h2 : t.1 549 16 = cI 34) (ha : ArgE (cI 34) (s.1 14) (t.1 553)) : Ok (fPH_act_4 s) fun x => Ok (fM_act t) fun y => AP (RH (q + 1)) (RH (q + 1)) F A s x y := by
  rw [dd_34 h1, dm_34 h2, ha 0 (by decide), ha 1 (by decide), ha 2 (by decide)]
  exact ac_34 hq hA hM h0 hR
theorem rp_35 (hq : q < 832100) (hA : AdmC s F A) (hM : FulM t F) (h0 : t.1 549 15 = 0) (hx : rdT (cI 35) → RTx4 s t) (hR : RH q s t) (h1 : s.1 9 14 = cI 35) (h2 : t.1 549 16 = cI 35) (ha : ArgE (cI 35) (s.1 14) (t.1 553)) : Ok (fPH_act_4 s) fun x => Ok (fM_act t) fun y => AP (RH (q + 1)) (RH (q + 1)) F A s x y := by
  rw [dd_35 h1, dm_35 h2, ha 0 (by decide), ha 1 (by decide)]
  exact ac_35 hq hA hM h0 hR
theorem rp_36 (hq : q < 832100) (hA : AdmC s F A) (hM : FulM t F) (h0 : t.1 549 15 = 0) (hx : rdT (cI 36) → RTx4 s t) (hR : RH q s t) (h1 : s.1 9 14 = cI 36) (h2 : t.1 549 16 = cI 36) (ha : ArgE (cI 36) (s.1 14) (t.1 553)) : Ok (fPH_act_4 s) fun x => Ok (fM_act t) fun y => AP (RH (q + 1)) (RH (q + 1)) F A s x y := by
  rw [dd_36 h1, dm_36 h2, ha 0 (by decide), ha 1 (by decide)]
  exact ac_36 hq hA hM h0 hR
theorem rp_37 (hq : q < 832100) (hA : AdmC s F A) (hM : FulM t F) (h0 : t.1 549 15 = 0) (hx : rdT (cI 37) → RTx4 s t) (hR : RH q s t) (h1 : s.1 9 14 = cI 37) (h2 : t.1 549 16 = cI 37) (ha : ArgE (cI 37) (s.1 14) (t.1 553)) : Ok (fPH_act_4 s) fun x => Ok (fM_act t) fun y => AP (RH (q + 1)) (RH (q + 1)) F A s x y := by
  rw [dd_37 h1, dm_37 h2, ha 0 (by decide), ha 1 (by decide)]
  exact ac_37 hq hA hM h0 hR
theorem rp_38 (hq : q < 832100) (hA : AdmC s F A) (hM : FulM t F) (h0 : t.1 549 15 = 0) (hx : rdT (cI 38) → RTx4 s t) (hR : RH q s t) (h1 : s.1 9 14 = cI 38) (h2 : t.1 549 16 = cI 38) (ha : ArgE (cI 38) (s.1 14) (t.1 553)) : Ok (fPH_act_4 s) fun x => Ok (fM_act t) fun y => AP (RH (q + 1)) (RH (q + 1)) F A s x y := by
  rw [dd_38 h1, dm_38 h2, ha 0 (by decide), ha 1 (by decide), ha 2 (by decide), ha 3 (by decide)]
  exact ac_38 hq hA hM h0 hR
theorem rp_39 (hq : q < 832100) (hA : AdmC s F A) (hM : FulM t F) (h0 : t.1 549 15 = 0) (hx : rdT (cI 39) → RTx4 s t) (hR : RH q s t) (h1 : s.1 9 14 = cI 39) (h2 : t.1 549 16 = cI 39) (ha : ArgE (cI 39) (s.1 14) (t.1 553)) : Ok (fPH_act_4 s) fun x => Ok (fM_act t) fun y => AP (RH (q + 1)) (RH (q + 1)) F A s x y := by
  have e : ∀ a b v, fPH_act_4_b677 s a b v = fPH_act_1_b677 s a b v := fun a b v => rfl
  rw [dd_39 h1, dm_39 h2, ha 0 (by decide), ha 1 (by decide), ha 2 (by decide)]
  simp only [e]
  by_cases z : s.1 14 2 = cI 1
  · simp only [if_pos z]
    exact ac_39 (Or.inr rfl) hA hM h0 hR
  · simp only [if_neg z]
    exact ac_39 (Or.inl rfl) hA hM h0 hR
theorem rp_40 (hq : q < 832100) (hA : AdmC s F A) (hM : FulM t F) (h0 : t.1 549 15 = 0) (hx : rdT (cI 40) → RTx4 s t) (hR : RH q s t) (h1 : s.1 9 14 = cI 40) (h2 : t.1 549 16 = cI 40) (ha : ArgE (cI 40) (s.1 14) (t.1 553)) : Ok (fPH_act_4 s) fun x => Ok (fM_act t) fun y => AP (RH (q + 1)) (RH (q + 1)) F A s x y := by
  rw [dd_40 h1, dm_40 h2, ha 0 (by decide)]
  exact ac_40 hq hA hM h0 hR
theorem act_4 {num : Int32} (hq : q < 832100) (hA : AdmC s F A) (hM : FulM t F) (h0 : t.1 549 15 = 0) (hx : rdT num → RTx4 s t) (hR : RH q s t) (g1 : 1 ≤ num.toInt) (g2 : num.toInt ≤ 40) (h1 : s.1 9 14 = num) (h2 : t.1 549 16 = num) (ha : ArgE num (s.1 14) (t.1 553)) : Ok (fPH_act_4 s) fun x => Ok (fM_act t) fun y => AP (RH (q + 1)) (RH (q + 1)) F A s x y := by
  obtain ⟨n, n1, n2, rfl⟩ : ∃ n : Nat, 1 ≤ n ∧ n ≤ 40 ∧ num = cI (n : Int) := ⟨ix num, by rw [ix_toNat]; omega, by rw [ix_toNat]; omega, (cI_ix (by omega)).symm⟩
  have h : n = 1 ∨ n = 2 ∨ n = 3 ∨ n = 4 ∨ n = 5 ∨ n = 6 ∨ n = 7 ∨ n = 8 ∨ n = 9 ∨ n = 10 ∨ n = 11 ∨ n = 12 ∨ n = 13 ∨ n = 14 ∨ n = 15 ∨ n = 16 ∨ n = 17 ∨ n = 18 ∨ n = 19 ∨ n = 20 ∨ n = 21 ∨ n = 22 ∨ n = 23 ∨ n = 24 ∨ n = 25 ∨ n = 26 ∨ n = 27 ∨ n = 28 ∨ n = 29 ∨ n = 30 ∨ n = 31 ∨ n = 32 ∨ n = 33 ∨ n = 34 ∨ n = 35 ∨ n = 36 ∨ n = 37 ∨ n = 38 ∨ n = 39 ∨ n = 40 := by omega
  rcases h with rfl | rfl | rfl | rfl | rfl | rfl | rfl | rfl | rfl | rfl | rfl | rfl | rfl | rfl | rfl | rfl | rfl | rfl | rfl | rfl | rfl | rfl | rfl | rfl | rfl | rfl | rfl | rfl | rfl | rfl | rfl | rfl | rfl | rfl | rfl | rfl | rfl | rfl | rfl | rfl
  · exact rp_1 hq hA hM h0 hx hR h1 h2 ha
  · exact rp_2 hq hA hM h0 hx hR h1 h2 ha
  · exact rp_3 hq hA hM h0 hx hR h1 h2 ha
  · exact rp_4 hq hA hM h0 hx hR h1 h2 ha
  · exact rp_5 hq hA hM h0 hx hR h1 h2 ha
  · exact rp_6 hq hA hM h0 hx hR h1 h2 ha
  · exact rp_7 hq hA hM h0 hx hR h1 h2 ha
  · exact rp_8 hq hA hM h0 hx hR h1 h2 ha
  · exact rp_9 hq hA hM h0 hx hR h1 h2 ha
  · exact rp_10 hq hA hM h0 hx hR h1 h2 ha
  · exact rp_11 hq hA hM h0 hx hR h1 h2 ha
  · exact rp_12 hq hA hM h0 hx hR h1 h2 ha
  · exact rp_13 hq hA hM h0 hx hR h1 h2 ha
  · exact rp_14 hq hA hM h0 hx hR h1 h2 ha
  · exact rp_15 hq hA hM h0 hx hR h1 h2 ha
  · exact rp_16 hq hA hM h0 hx hR h1 h2 ha
  · exact rp_17 hq hA hM h0 hx hR h1 h2 ha
  · exact rp_18 hq hA hM h0 hx hR h1 h2 ha
  · exact rp_19 hq hA hM h0 hx hR h1 h2 ha
  · exact rp_20 hq hA hM h0 hx hR h1 h2 ha
  · exact rp_21 hq hA hM h0 hx hR h1 h2 ha
  · exact rp_22 hq hA hM h0 hx hR h1 h2 ha
  · exact rp_23 hq hA hM h0 hx hR h1 h2 ha
  · exact rp_24 hq hA hM h0 hx hR h1 h2 ha
  · exact rp_25 hq hA hM h0 hx hR h1 h2 ha
  · exact rp_26 hq hA hM h0 hx hR h1 h2 ha
  · exact rp_27 hq hA hM h0 hx hR h1 h2 ha
  · exact rp_28 hq hA hM h0 hx hR h1 h2 ha
  · exact rp_29 hq hA hM h0 hx hR h1 h2 ha
  · exact rp_30 hq hA hM h0 hx hR h1 h2 ha
  · exact rp_31 hq hA hM h0 hx hR h1 h2 ha
  · exact rp_32 hq hA hM h0 hx hR h1 h2 ha
  · exact rp_33 hq hA hM h0 hx hR h1 h2 ha
  · exact rp_34 hq hA hM h0 hx hR h1 h2 ha
  · exact rp_35 hq hA hM h0 hx hR h1 h2 ha
  · exact rp_36 hq hA hM h0 hx hR h1 h2 ha
  · exact rp_37 hq hA hM h0 hx hR h1 h2 ha
  · exact rp_38 hq hA hM h0 hx hR h1 h2 ha
  · exact rp_39 hq hA hM h0 hx hR h1 h2 ha
  · exact rp_40 hq hA hM h0 hx hR h1 h2 ha
end
