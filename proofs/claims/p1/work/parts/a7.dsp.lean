/-! ===== LEVEL 3: which method an act's number calls (printed) ===== -/
theorem bd2_eta {α β : Type} {o : Option (α × β)} : (bd2 o fun s v => some (s, v)) = o := by
  cases o <;> rfl
theorem dc_1 {s : ev_M} (h : s.1 9 14 = cI 1) : fPH_act_1 s = fBook_readText_1 s := by
  unfold fPH_act_1
  rw [h]
  exact bd2_eta
theorem dc_2 {s : ev_M} (h : s.1 9 14 = cI 2) : fPH_act_1 s = fBook_tellForwarding s (s.1 14 0) (s.1 14 1) (s.1 14 2) (s.1 14 3) := by
  unfold fPH_act_1
  rw [h]
  exact bd2_eta
theorem dc_3 {s : ev_M} (h : s.1 9 14 = cI 3) : fPH_act_1 s = fBook_tellHold s (s.1 14 0) (s.1 14 1) (s.1 14 2) := by
  unfold fPH_act_1
  rw [h]
  exact bd2_eta
theorem dc_4 {s : ev_M} (h : s.1 9 14 = cI 4) : fPH_act_1 s = fSheet_show_1 s (s.1 14 0) := by
  unfold fPH_act_1
  rw [h]
  exact bd2_eta
theorem dc_5 {s : ev_M} (h : s.1 9 14 = cI 5) : fPH_act_1 s = fItems_tell s (s.1 14 0) (s.1 14 1) (s.1 14 2) (s.1 14 3) (s.1 14 4) (s.1 14 5) := by
  unfold fPH_act_1
  rw [h]
  exact bd2_eta
theorem dc_6 {s : ev_M} (h : s.1 9 14 = cI 6) : fPH_act_1 s = fItems_setAddress s (s.1 14 0) (s.1 14 1) := by
  unfold fPH_act_1
  rw [h]
  exact bd2_eta
theorem dc_7 {s : ev_M} (h : s.1 9 14 = cI 7) : fPH_act_1 s = fItems_takeReading s (s.1 14 0) := by
  unfold fPH_act_1
  rw [h]
  exact bd2_eta
theorem dc_8 {s : ev_M} (h : s.1 9 14 = cI 8) : fPH_act_1 s = fItems_hearClerk s (s.1 14 0) (s.1 14 1) (s.1 14 2) := by
  unfold fPH_act_1
  rw [h]
  exact bd2_eta
theorem dc_9 {s : ev_M} (h : s.1 9 14 = cI 9) : fPH_act_1 s = fItems_postAt s (s.1 14 0) (s.1 14 1) := by
  unfold fPH_act_1
  rw [h]
  exact bd2_eta
theorem dc_10 {s : ev_M} (h : s.1 9 14 = cI 10) : fPH_act_1 s = fRounds_setMachine s (s.1 14 0) (s.1 14 1) (s.1 14 2) (s.1 14 3) := by
  unfold fPH_act_1
  rw [h]
  exact bd2_eta
theorem dc_11 {s : ev_M} (h : s.1 9 14 = cI 11) : fPH_act_1 s = fRounds_make s (s.1 14 0) (s.1 14 1) (s.1 14 2) := by
  unfold fPH_act_1
  rw [h]
  exact bd2_eta
theorem dc_12 {s : ev_M} (h : s.1 9 14 = cI 12) : fPH_act_1 s = fRounds_addStop s (s.1 14 0) (s.1 14 1) := by
  unfold fPH_act_1
  rw [h]
  exact bd2_eta
theorem dc_13 {s : ev_M} (h : s.1 9 14 = cI 13) : fPH_act_1 s = fRounds_arrangeStops s (s.1 14 0) := by
  unfold fPH_act_1
  rw [h]
  exact bd2_eta
theorem dc_14 {s : ev_M} (h : s.1 9 14 = cI 14) : fPH_act_1 s = fRounds_sortItems s (s.1 14 0) := by
  unfold fPH_act_1
  rw [h]
  exact bd2_eta
theorem dc_15 {s : ev_M} (h : s.1 9 14 = cI 15) : fPH_act_1 s = fRounds_sendOut s (s.1 14 0) := by
  unfold fPH_act_1
  rw [h]
  exact bd2_eta
theorem dc_16 {s : ev_M} (h : s.1 9 14 = cI 16) : fPH_act_1 s = fLines_make s (s.1 14 0) (s.1 14 1) (s.1 14 2) (s.1 14 3) (s.1 14 4) := by
  unfold fPH_act_1
  rw [h]
  exact bd2_eta
theorem dc_17 {s : ev_M} (h : s.1 9 14 = cI 17) : fPH_act_1 s = fLines_delay s (s.1 14 0) (s.1 14 1) := by
  unfold fPH_act_1
  rw [h]
  exact bd2_eta
theorem dc_18 {s : ev_M} (h : s.1 9 14 = cI 18) : fPH_act_1 s = fLines_makeBag s (s.1 14 0) (s.1 14 1) := by
  unfold fPH_act_1
  rw [h]
  exact bd2_eta
theorem dc_19 {s : ev_M} (h : s.1 9 14 = cI 19) : fPH_act_1 s = fLines_fillBag s (s.1 14 0) (s.1 14 1) := by
  unfold fPH_act_1
  rw [h]
  exact bd2_eta
theorem dc_20 {s : ev_M} (h : s.1 9 14 = cI 20) : fPH_act_1 s = fLines_shutBag s (s.1 14 0) := by
  unfold fPH_act_1
  rw [h]
  exact bd2_eta
theorem dc_21 {s : ev_M} (h : s.1 9 14 = cI 21) : fPH_act_1 s = fLines_emptyBag s (s.1 14 0) := by
  unfold fPH_act_1
  rw [h]
  exact bd2_eta
theorem dc_22 {s : ev_M} (h : s.1 9 14 = cI 22) : fPH_act_1 s = fItems_handAtDoor s (s.1 14 0) (s.1 14 1) (s.1 14 2) (s.1 14 3) := by
  unfold fPH_act_1
  rw [h]
  exact bd2_eta
theorem dc_23 {s : ev_M} (h : s.1 9 14 = cI 23) : fPH_act_1 s = fItems_missAtDoor s (s.1 14 0) := by
  unfold fPH_act_1
  rw [h]
  exact bd2_eta
theorem dc_24 {s : ev_M} (h : s.1 9 14 = cI 24) : fPH_act_1 s = fItems_refuseItem s (s.1 14 0) := by
  unfold fPH_act_1
  rw [h]
  exact bd2_eta
theorem dc_25 {s : ev_M} (h : s.1 9 14 = cI 25) : fPH_act_1 s = fLock_fill s (s.1 14 0) (s.1 14 1) := by
  unfold fPH_act_1
  rw [h]
  exact bd2_eta
theorem dc_26 {s : ev_M} (h : s.1 9 14 = cI 26) : fPH_act_1 s = fItems_handAtPost s (s.1 14 0) (s.1 14 1) (s.1 14 2) (s.1 14 3) := by
  unfold fPH_act_1
  rw [h]
  exact bd2_eta
theorem dc_27 {s : ev_M} (h : s.1 9 14 = cI 27) : fPH_act_1 s = fLock_tryKey s (s.1 14 0) (s.1 14 1) := by
  unfold fPH_act_1
  rw [h]
  exact bd2_eta
theorem dc_28 {s : ev_M} (h : s.1 9 14 = cI 28) : fPH_act_1 s = fPH_loseItem s (s.1 14 0) := by
  unfold fPH_act_1
  rw [h]
  exact bd2_eta
theorem dc_29 {s : ev_M} (h : s.1 9 14 = cI 29) : fPH_act_1 s = fMoney_openAccount s (s.1 14 0) := by
  unfold fPH_act_1
  rw [h]
  exact bd2_eta
theorem dc_30 {s : ev_M} (h : s.1 9 14 = cI 30) : fPH_act_1 s = fMoney_payIn s (s.1 14 0) (s.1 14 1) := by
  unfold fPH_act_1
  rw [h]
  exact bd2_eta
theorem dc_31 {s : ev_M} (h : s.1 9 14 = cI 31) : fPH_act_1 s = fMoney_readTariff_1 s := by
  unfold fPH_act_1
  rw [h]
  exact bd2_eta
theorem dc_32 {s : ev_M} (h : s.1 9 14 = cI 32) : fPH_act_1 s = fItems_frankItem s (s.1 14 0) := by
  unfold fPH_act_1
  rw [h]
  exact bd2_eta
theorem dc_33 {s : ev_M} (h : s.1 9 14 = cI 33) : fPH_act_1 s = fMoney_makeOrder s (s.1 14 0) (s.1 14 1) (s.1 14 2) := by
  unfold fPH_act_1
  rw [h]
  exact bd2_eta
theorem dc_34 {s : ev_M} (h : s.1 9 14 = cI 34) : fPH_act_1 s = fMoney_payOrder s (s.1 14 0) (s.1 14 1) (s.1 14 2) := by
  unfold fPH_act_1
  rw [h]
  exact bd2_eta
theorem dc_35 {s : ev_M} (h : s.1 9 14 = cI 35) : fPH_act_1 s = fItems_claimFor s (s.1 14 0) (s.1 14 1) := by
  unfold fPH_act_1
  rw [h]
  exact bd2_eta
theorem dc_36 {s : ev_M} (h : s.1 9 14 = cI 36) : fPH_act_1 s = fLock_make s (s.1 14 0) (s.1 14 1) := by
  unfold fPH_act_1
  rw [h]
  exact bd2_eta
theorem dc_37 {s : ev_M} (h : s.1 9 14 = cI 37) : fPH_act_1 s = fChron_setDevice s (s.1 14 0) (s.1 14 1) := by
  unfold fPH_act_1
  rw [h]
  exact bd2_eta
theorem dc_38 {s : ev_M} (h : s.1 9 14 = cI 38) : fPH_act_1 s = fPH_scanItem s (s.1 14 0) (s.1 14 1) (s.1 14 2) (s.1 14 3) := by
  unfold fPH_act_1
  rw [h]
  exact bd2_eta
theorem dc_39 {s : ev_M} (h : s.1 9 14 = cI 39) : fPH_act_1 s = (
    bd1 (fMoney_isCustomer s (s.1 14 0)) fun v85 =>
    if v85 = 0 then
      some (s, (cI (-101)))
    else
      if (s.1 14 2) = (cI 1) then
        fPH_act_1_b677 s (s.1 14 0) (s.1 14 1) (cI 1)
      else
        fPH_act_1_b677 s (s.1 14 0) (s.1 14 1) (cI 0)) := by
  unfold fPH_act_1
  rw [h]
  rfl
theorem dc_40 {s : ev_M} (h : s.1 9 14 = cI 40) : fPH_act_1 s = fPH_goOn s (s.1 14 0) := by
  unfold fPH_act_1
  rw [h]
  exact bd2_eta
theorem dd_1 {s : ev_M} (h : s.1 9 14 = cI 1) : fPH_act_4 s = fBook_readText_4 s := by
  unfold fPH_act_4
  rw [h]
  exact bd2_eta
theorem dd_2 {s : ev_M} (h : s.1 9 14 = cI 2) : fPH_act_4 s = fBook_tellForwarding s (s.1 14 0) (s.1 14 1) (s.1 14 2) (s.1 14 3) := by
  unfold fPH_act_4
  rw [h]
  exact bd2_eta
theorem dd_3 {s : ev_M} (h : s.1 9 14 = cI 3) : fPH_act_4 s = fBook_tellHold s (s.1 14 0) (s.1 14 1) (s.1 14 2) := by
  unfold fPH_act_4
  rw [h]
  exact bd2_eta
theorem dd_4 {s : ev_M} (h : s.1 9 14 = cI 4) : fPH_act_4 s = fSheet_show_4 s (s.1 14 0) := by
  unfold fPH_act_4
  rw [h]
  exact bd2_eta
theorem dd_5 {s : ev_M} (h : s.1 9 14 = cI 5) : fPH_act_4 s = fItems_tell s (s.1 14 0) (s.1 14 1) (s.1 14 2) (s.1 14 3) (s.1 14 4) (s.1 14 5) := by
  unfold fPH_act_4
  rw [h]
  exact bd2_eta
theorem dd_6 {s : ev_M} (h : s.1 9 14 = cI 6) : fPH_act_4 s = fItems_setAddress s (s.1 14 0) (s.1 14 1) := by
  unfold fPH_act_4
  rw [h]
  exact bd2_eta
theorem dd_7 {s : ev_M} (h : s.1 9 14 = cI 7) : fPH_act_4 s = fItems_takeReading s (s.1 14 0) := by
  unfold fPH_act_4
  rw [h]
  exact bd2_eta
theorem dd_8 {s : ev_M} (h : s.1 9 14 = cI 8) : fPH_act_4 s = fItems_hearClerk s (s.1 14 0) (s.1 14 1) (s.1 14 2) := by
  unfold fPH_act_4
  rw [h]
  exact bd2_eta
theorem dd_9 {s : ev_M} (h : s.1 9 14 = cI 9) : fPH_act_4 s = fItems_postAt s (s.1 14 0) (s.1 14 1) := by
  unfold fPH_act_4
  rw [h]
  exact bd2_eta
theorem dd_10 {s : ev_M} (h : s.1 9 14 = cI 10) : fPH_act_4 s = fRounds_setMachine s (s.1 14 0) (s.1 14 1) (s.1 14 2) (s.1 14 3) := by
  unfold fPH_act_4
  rw [h]
  exact bd2_eta
theorem dd_11 {s : ev_M} (h : s.1 9 14 = cI 11) : fPH_act_4 s = fRounds_make s (s.1 14 0) (s.1 14 1) (s.1 14 2) := by
  unfold fPH_act_4
  rw [h]
  exact bd2_eta
theorem dd_12 {s : ev_M} (h : s.1 9 14 = cI 12) : fPH_act_4 s = fRounds_addStop s (s.1 14 0) (s.1 14 1) := by
  unfold fPH_act_4
  rw [h]
  exact bd2_eta
theorem dd_13 {s : ev_M} (h : s.1 9 14 = cI 13) : fPH_act_4 s = fRounds_arrangeStops s (s.1 14 0) := by
  unfold fPH_act_4
  rw [h]
  exact bd2_eta
theorem dd_14 {s : ev_M} (h : s.1 9 14 = cI 14) : fPH_act_4 s = fRounds_sortItems s (s.1 14 0) := by
  unfold fPH_act_4
  rw [h]
  exact bd2_eta
theorem dd_15 {s : ev_M} (h : s.1 9 14 = cI 15) : fPH_act_4 s = fRounds_sendOut s (s.1 14 0) := by
  unfold fPH_act_4
  rw [h]
  exact bd2_eta
theorem dd_16 {s : ev_M} (h : s.1 9 14 = cI 16) : fPH_act_4 s = fLines_make s (s.1 14 0) (s.1 14 1) (s.1 14 2) (s.1 14 3) (s.1 14 4) := by
  unfold fPH_act_4
  rw [h]
  exact bd2_eta
theorem dd_17 {s : ev_M} (h : s.1 9 14 = cI 17) : fPH_act_4 s = fLines_delay s (s.1 14 0) (s.1 14 1) := by
  unfold fPH_act_4
  rw [h]
  exact bd2_eta
theorem dd_18 {s : ev_M} (h : s.1 9 14 = cI 18) : fPH_act_4 s = fLines_makeBag s (s.1 14 0) (s.1 14 1) := by
  unfold fPH_act_4
  rw [h]
  exact bd2_eta
theorem dd_19 {s : ev_M} (h : s.1 9 14 = cI 19) : fPH_act_4 s = fLines_fillBag s (s.1 14 0) (s.1 14 1) := by
  unfold fPH_act_4
  rw [h]
  exact bd2_eta
theorem dd_20 {s : ev_M} (h : s.1 9 14 = cI 20) : fPH_act_4 s = fLines_shutBag s (s.1 14 0) := by
  unfold fPH_act_4
  rw [h]
  exact bd2_eta
theorem dd_21 {s : ev_M} (h : s.1 9 14 = cI 21) : fPH_act_4 s = fLines_emptyBag s (s.1 14 0) := by
  unfold fPH_act_4
  rw [h]
  exact bd2_eta
theorem dd_22 {s : ev_M} (h : s.1 9 14 = cI 22) : fPH_act_4 s = fItems_handAtDoor s (s.1 14 0) (s.1 14 1) (s.1 14 2) (s.1 14 3) := by
  unfold fPH_act_4
  rw [h]
  exact bd2_eta
theorem dd_23 {s : ev_M} (h : s.1 9 14 = cI 23) : fPH_act_4 s = fItems_missAtDoor s (s.1 14 0) := by
  unfold fPH_act_4
  rw [h]
  exact bd2_eta
theorem dd_24 {s : ev_M} (h : s.1 9 14 = cI 24) : fPH_act_4 s = fItems_refuseItem s (s.1 14 0) := by
  unfold fPH_act_4
  rw [h]
  exact bd2_eta
theorem dd_25 {s : ev_M} (h : s.1 9 14 = cI 25) : fPH_act_4 s = fLock_fill s (s.1 14 0) (s.1 14 1) := by
  unfold fPH_act_4
  rw [h]
  exact bd2_eta
theorem dd_26 {s : ev_M} (h : s.1 9 14 = cI 26) : fPH_act_4 s = fItems_handAtPost s (s.1 14 0) (s.1 14 1) (s.1 14 2) (s.1 14 3) := by
  unfold fPH_act_4
  rw [h]
  exact bd2_eta
theorem dd_27 {s : ev_M} (h : s.1 9 14 = cI 27) : fPH_act_4 s = fLock_tryKey s (s.1 14 0) (s.1 14 1) := by
  unfold fPH_act_4
  rw [h]
  exact bd2_eta
theorem dd_28 {s : ev_M} (h : s.1 9 14 = cI 28) : fPH_act_4 s = fPH_loseItem s (s.1 14 0) := by
  unfold fPH_act_4
  rw [h]
  exact bd2_eta
theorem dd_29 {s : ev_M} (h : s.1 9 14 = cI 29) : fPH_act_4 s = fMoney_openAccount s (s.1 14 0) := by
  unfold fPH_act_4
  rw [h]
  exact bd2_eta
theorem dd_30 {s : ev_M} (h : s.1 9 14 = cI 30) : fPH_act_4 s = fMoney_payIn s (s.1 14 0) (s.1 14 1) := by
  unfold fPH_act_4
  rw [h]
  exact bd2_eta
theorem dd_31 {s : ev_M} (h : s.1 9 14 = cI 31) : fPH_act_4 s = fMoney_readTariff_4 s := by
  unfold fPH_act_4
  rw [h]
  exact bd2_eta
theorem dd_32 {s : ev_M} (h : s.1 9 14 = cI 32) : fPH_act_4 s = fItems_frankItem s (s.1 14 0) := by
  unfold fPH_act_4
  rw [h]
  exact bd2_eta
theorem dd_33 {s : ev_M} (h : s.1 9 14 = cI 33) : fPH_act_4 s = fMoney_makeOrder s (s.1 14 0) (s.1 14 1) (s.1 14 2) := by
  unfold fPH_act_4
  rw [h]
  exact bd2_eta
theorem dd_34 {s : ev_M} (h : s.1 9 14 = cI 34) : fPH_act_4 s = fMoney_payOrder s (s.1 14 0) (s.1 14 1) (s.1 14 2) := by
  unfold fPH_act_4
  rw [h]
  exact bd2_eta
theorem dd_35 {s : ev_M} (h : s.1 9 14 = cI 35) : fPH_act_4 s = fItems_claimFor s (s.1 14 0) (s.1 14 1) := by
  unfold fPH_act_4
  rw [h]
  exact bd2_eta
theorem dd_36 {s : ev_M} (h : s.1 9 14 = cI 36) : fPH_act_4 s = fLock_make s (s.1 14 0) (s.1 14 1) := by
  unfold fPH_act_4
  rw [h]
  exact bd2_eta
theorem dd_37 {s : ev_M} (h : s.1 9 14 = cI 37) : fPH_act_4 s = fChron_setDevice s (s.1 14 0) (s.1 14 1) := by
  unfold fPH_act_4
  rw [h]
  exact bd2_eta
theorem dd_38 {s : ev_M} (h : s.1 9 14 = cI 38) : fPH_act_4 s = fPH_scanItem s (s.1 14 0) (s.1 14 1) (s.1 14 2) (s.1 14 3) := by
  unfold fPH_act_4
  rw [h]
  exact bd2_eta
theorem dd_39 {s : ev_M} (h : s.1 9 14 = cI 39) : fPH_act_4 s = (
    bd1 (fMoney_isCustomer s (s.1 14 0)) fun v85 =>
    if v85 = 0 then
      some (s, (cI (-101)))
    else
      if (s.1 14 2) = (cI 1) then
        fPH_act_4_b677 s (s.1 14 0) (s.1 14 1) (cI 1)
      else
        fPH_act_4_b677 s (s.1 14 0) (s.1 14 1) (cI 0)) := by
  unfold fPH_act_4
  rw [h]
  rfl
theorem dd_40 {s : ev_M} (h : s.1 9 14 = cI 40) : fPH_act_4 s = fPH_goOn s (s.1 14 0) := by
  unfold fPH_act_4
  rw [h]
  exact bd2_eta
theorem dm_1 {s : ev_M} (h : s.1 549 16 = cI 1) : fM_act s = fM_doBook s := by
  unfold fM_act
  rw [h]
  exact bd2_eta
theorem dm_2 {s : ev_M} (h : s.1 549 16 = cI 2) : fM_act s = fM_doNote s (s.1 553 0) (s.1 553 1) (cI 1) (s.1 553 2) (s.1 553 3) := by
  unfold fM_act
  rw [h]
  exact bd2_eta
theorem dm_3 {s : ev_M} (h : s.1 549 16 = cI 3) : fM_act s = fM_doNote s (s.1 553 0) (s.1 553 1) (cI 0) (cI 0) (s.1 553 2) := by
  unfold fM_act
  rw [h]
  exact bd2_eta
theorem dm_4 {s : ev_M} (h : s.1 549 16 = cI 4) : fM_act s = fM_doSheet s (s.1 553 0) := by
  unfold fM_act
  rw [h]
  exact bd2_eta
theorem dm_5 {s : ev_M} (h : s.1 549 16 = cI 5) : fM_act s = fM_doItem s (s.1 553 0) (s.1 553 1) (s.1 553 2) (s.1 553 3) (s.1 553 4) (s.1 553 5) := by
  unfold fM_act
  rw [h]
  exact bd2_eta
theorem dm_6 {s : ev_M} (h : s.1 549 16 = cI 6) : fM_act s = fM_doAddress s (s.1 553 0) (s.1 553 1) := by
  unfold fM_act
  rw [h]
  exact bd2_eta
theorem dm_7 {s : ev_M} (h : s.1 549 16 = cI 7) : fM_act s = fM_doTake s (s.1 553 0) := by
  unfold fM_act
  rw [h]
  exact bd2_eta
theorem dm_8 {s : ev_M} (h : s.1 549 16 = cI 8) : fM_act s = fM_doClerk s (s.1 553 0) (s.1 553 1) (s.1 553 2) := by
  unfold fM_act
  rw [h]
  exact bd2_eta
theorem dm_9 {s : ev_M} (h : s.1 549 16 = cI 9) : fM_act s = fM_doPost s (s.1 553 0) (s.1 553 1) := by
  unfold fM_act
  rw [h]
  exact bd2_eta
theorem dm_10 {s : ev_M} (h : s.1 549 16 = cI 10) : fM_act s = fM_doMachine s (s.1 553 0) (s.1 553 1) (s.1 553 2) (s.1 553 3) := by
  unfold fM_act
  rw [h]
  exact bd2_eta
theorem dm_11 {s : ev_M} (h : s.1 549 16 = cI 11) : fM_act s = fM_doRound s (s.1 553 0) (s.1 553 1) (s.1 553 2) := by
  unfold fM_act
  rw [h]
  exact bd2_eta
theorem dm_12 {s : ev_M} (h : s.1 549 16 = cI 12) : fM_act s = fM_doAssign s (s.1 553 0) (s.1 553 1) := by
  unfold fM_act
  rw [h]
  exact bd2_eta
theorem dm_13 {s : ev_M} (h : s.1 549 16 = cI 13) : fM_act s = fM_doArrange s (s.1 553 0) := by
  unfold fM_act
  rw [h]
  exact bd2_eta
theorem dm_14 {s : ev_M} (h : s.1 549 16 = cI 14) : fM_act s = fM_doSort s (s.1 553 0) := by
  unfold fM_act
  rw [h]
  exact bd2_eta
theorem dm_15 {s : ev_M} (h : s.1 549 16 = cI 15) : fM_act s = fM_doOut s (s.1 553 0) := by
  unfold fM_act
  rw [h]
  exact bd2_eta
theorem dm_16 {s : ev_M} (h : s.1 549 16 = cI 16) : fM_act s = fM_doLeg s (s.1 553 0) (s.1 553 1) (s.1 553 2) (s.1 553 3) (s.1 553 4) := by
  unfold fM_act
  rw [h]
  exact bd2_eta
theorem dm_17 {s : ev_M} (h : s.1 549 16 = cI 17) : fM_act s = fM_doLate s (s.1 553 0) (s.1 553 1) := by
  unfold fM_act
  rw [h]
  exact bd2_eta
theorem dm_18 {s : ev_M} (h : s.1 549 16 = cI 18) : fM_act s = fM_doBag s (s.1 553 0) (s.1 553 1) := by
  unfold fM_act
  rw [h]
  exact bd2_eta
theorem dm_19 {s : ev_M} (h : s.1 549 16 = cI 19) : fM_act s = fM_doInto s (s.1 553 0) (s.1 553 1) := by
  unfold fM_act
  rw [h]
  exact bd2_eta
theorem dm_20 {s : ev_M} (h : s.1 549 16 = cI 20) : fM_act s = fM_doClose s (s.1 553 0) := by
  unfold fM_act
  rw [h]
  exact bd2_eta
theorem dm_21 {s : ev_M} (h : s.1 549 16 = cI 21) : fM_act s = fM_doOpen s (s.1 553 0) := by
  unfold fM_act
  rw [h]
  exact bd2_eta
theorem dm_22 {s : ev_M} (h : s.1 549 16 = cI 22) : fM_act s = fM_handOver s (s.1 553 0) (s.1 553 1) (s.1 553 2) (s.1 553 3) (cI 1) := by
  unfold fM_act
  rw [h]
  exact bd2_eta
theorem dm_23 {s : ev_M} (h : s.1 549 16 = cI 23) : fM_act s = fM_doMiss s (s.1 553 0) := by
  unfold fM_act
  rw [h]
  exact bd2_eta
theorem dm_24 {s : ev_M} (h : s.1 549 16 = cI 24) : fM_act s = fM_doRefuse s (s.1 553 0) := by
  unfold fM_act
  rw [h]
  exact bd2_eta
theorem dm_25 {s : ev_M} (h : s.1 549 16 = cI 25) : fM_act s = fM_doPut s (s.1 553 0) (s.1 553 1) := by
  unfold fM_act
  rw [h]
  exact bd2_eta
theorem dm_26 {s : ev_M} (h : s.1 549 16 = cI 26) : fM_act s = fM_handOver s (s.1 553 0) (s.1 553 1) (s.1 553 2) (s.1 553 3) (cI 0) := by
  unfold fM_act
  rw [h]
  exact bd2_eta
theorem dm_27 {s : ev_M} (h : s.1 549 16 = cI 27) : fM_act s = fM_doBox s (s.1 553 0) (s.1 553 1) := by
  unfold fM_act
  rw [h]
  exact bd2_eta
theorem dm_28 {s : ev_M} (h : s.1 549 16 = cI 28) : fM_act s = fM_doLose s (s.1 553 0) := by
  unfold fM_act
  rw [h]
  exact bd2_eta
theorem dm_29 {s : ev_M} (h : s.1 549 16 = cI 29) : fM_act s = fM_doAccount s (s.1 553 0) := by
  unfold fM_act
  rw [h]
  exact bd2_eta
theorem dm_30 {s : ev_M} (h : s.1 549 16 = cI 30) : fM_act s = fM_doDeposit s (s.1 553 0) (s.1 553 1) := by
  unfold fM_act
  rw [h]
  exact bd2_eta
theorem dm_31 {s : ev_M} (h : s.1 549 16 = cI 31) : fM_act s = fM_doTariff s := by
  unfold fM_act
  rw [h]
  exact bd2_eta
theorem dm_32 {s : ev_M} (h : s.1 549 16 = cI 32) : fM_act s = fM_doFrank s (s.1 553 0) := by
  unfold fM_act
  rw [h]
  exact bd2_eta
theorem dm_33 {s : ev_M} (h : s.1 549 16 = cI 33) : fM_act s = fM_doOrder s (s.1 553 0) (s.1 553 1) (s.1 553 2) := by
  unfold fM_act
  rw [h]
  exact bd2_eta
theorem dm_34 {s : ev_M} (h : s.1 549 16 = cI 34) : fM_act s = fM_doPayOut s (s.1 553 0) (s.1 553 1) (s.1 553 2) := by
  unfold fM_act
  rw [h]
  exact bd2_eta
theorem dm_35 {s : ev_M} (h : s.1 549 16 = cI 35) : fM_act s = fM_doClaim s (s.1 553 0) (s.1 553 1) := by
  unfold fM_act
  rw [h]
  exact bd2_eta
theorem dm_36 {s : ev_M} (h : s.1 549 16 = cI 36) : fM_act s = fM_doLocker s (s.1 553 0) (s.1 553 1) := by
  unfold fM_act
  rw [h]
  exact bd2_eta
theorem dm_37 {s : ev_M} (h : s.1 549 16 = cI 37) : fM_act s = fM_doDevice s (s.1 553 0) (s.1 553 1) := by
  unfold fM_act
  rw [h]
  exact bd2_eta
theorem dm_38 {s : ev_M} (h : s.1 549 16 = cI 38) : fM_act s = fM_doScanned s (s.1 553 0) (s.1 553 1) (s.1 553 2) (s.1 553 3) := by
  unfold fM_act
  rw [h]
  exact bd2_eta
theorem dm_39 {s : ev_M} (h : s.1 549 16 = cI 39) : fM_act s = (
    if (s.1 553 2) = (cI 1) then
      fM_act_b516 s (s.1 553 0) (s.1 553 1) (cI 1)
    else
      fM_act_b516 s (s.1 553 0) (s.1 553 1) (cI 0)) := by
  unfold fM_act
  rw [h]
  rfl
theorem dm_40 {s : ev_M} (h : s.1 549 16 = cI 40) : fM_act s = fM_doTick s (s.1 553 0) := by
  unfold fM_act
  rw [h]
  exact bd2_eta
