/-! ===== SOUNDNESS: the induction ===== -/
section IND
variable {shp : Nat → Nat × (Nat × (Nat × Nat))} {rfT : Nat → Nat → Nat} {fty : Nat → Nat → Nat} {D : va_G} {cls : List vw_C} {cA : Nat → ClassId} {ad : Nat → Nat} {base : Nat} {stc : Nat → Nat → Int32}
variable {cod : Nat → List (List ev_E)} {dat : Nat → ev_D} {prm : Nat → Option (List ev_V → ev_M → Option ev_O)} {bys : Nat → ByteArray} {nam : Nat → MethodName} {rty : Nat → Option FieldType} {frm lco : Nat → Nat} {Ts : List Cond} {nws : List (String × (Nat × (MethodName × String)))} {sts : List (String × (String × (String × Nat)))} {EX : State → Prop}
variable {l : Launch} {md : Bool}
theorem sn_W.weak {p : Program} {e : Env} {R : Room} {s : State} {m : MethodId} {args : Array Value} {below : List Frame} {meth : Method} {c : Code} {Q : State → Prop} {c0 s0 nL pc : Nat} {L L' : ev_L} {st : List ev_V} {x : ev_M} (h : sn_W shp rfT fty D cls cA ad base stc p l e R s m args below meth c Q md c0 s0 nL pc L' st x) (hs : ∀ (j : Nat) (w : ev_V), ev_nth L' j = some (some w) → ev_nth L j = some (some w)) : sn_W shp rfT fty D cls cA ad base stc p l e R s m args below meth c Q md c0 s0 nL pc L st x := fun H locs cells slots ls S => h H locs cells slots ls (S.loc (S.2.2.1.sub shp ad hs))
theorem off_nonneg {pc : Nat} {d : Int} : ∀ (ps : List (Int × Int)), 0 ≤ (pc : Int) + d → (∀ q ∈ ps, 0 ≤ (pc : Int) + q.2) → ∀ z : Int, 0 ≤ (pc : Int) + Op.lookupswitch.offset ps d z
  | [], h1, _, z => h1
  | (v, o) :: r, h1, h2, z => by
    rw [Op.lookupswitch.offset_cons]
    split
    · exact h2 (v, o) List.mem_cons_self
    · exact off_nonneg r h1 (fun q hq => h2 q (List.mem_cons_of_mem _ hq)) z
theorem so_sim (hX : so_X shp fty cls ad base cod dat prm bys nam rty frm lco Ts nws sts) (hP : so_P shp rfT fty D cls cA ad base stc cod dat prm bys nam frm lco Ts nws sts EX l md) (hT : so_T shp D cls cA ad base stc cod dat bys nam frm lco Ts nws sts EX l) : ∀ f, so_Sim shp rfT fty D cls cA ad base stc cod dat prm bys nam rty frm lco Ts nws sts EX l md f := by
  intro f
  induction f with
  | zero =>
    intro M pc L st x out h
    cases h
  | succ f ih =>
    obtain ⟨hX1, hst0, hstw, hsz, hst5, hw0, hC, hTy, hgood, hE, hpm, hpl⟩ := id hX
    intro M pc L st x out h p e R s m args below meth c Q c0 s0 hF hR hN
    have h9 : (match ev_fnd2 (cod M) pc with
      | some q => ev_sem shp rfT md (fun c => (dat c).2.1) (dat M).2.2.1 q.1 q.2.1 q.2.2.1 pc (fun c as s => match prm c with
        | some w => w as s
        | none => bif ev_chk shp (dat c).2.2.2 (dat c).1 as then ev shp rfT cod dat prm md f c 0 (ev_ent as (dat c).1) [] s else none) (ev shp rfT cod dat prm md f M) (ev_clr L q.2.2.2) st x
      | none => none) = some out := h
    split at h9
    · next q hq =>
      obtain ⟨ins, n, r, dl⟩ := q
      obtain ⟨hd, hx⟩ := hE M pc _ hq
      obtain ⟨F, hnm, hWK, hRf, hRl⟩ := id hF
      obtain ⟨f1, f2, f3, f4, hts⟩ := id F
      have hK := hWK.1
      have hst := hWK.2.2.2.2.1
      have hk : sn_K shp rfT fty D cls cA ad base stc p l e R s m args below meth c Q md c0 s0 (dat M).1 out (ev shp rfT cod dat prm md f M) := fun pc L st x h => ih M pc L st x out h p e R s m args below meth c Q c0 s0 hF hR hN
      have hmk : ev_mk out (ev shp rfT cod dat prm md f M) := fun pc L st x h => ev_mono hpm f M pc L st x out h
      have hmo : sn_mono (ev shp rfT cod dat prm md f M) out := fun pc L st x h => (hmk pc L st x h).2
      refine sn_W.weak (L' := ev_clr L dl) ?_ (fun j w hw => ev_clr_some dl hw)
      generalize ev_clr L dl = L' at h9
      dsimp only at hd hx h9
      have hroom : ∀ cn, so_room dat frm lco M cn → frm cn + 1 ≤ R.frames ∧ 8 + ((dat cn).1 + 11) + lco cn ≤ R.locals := fun cn h => by rw [hRf, hRl]; exact h
      have hcf : ∀ (cn : Nat), prm cn = none → ∀ as x o, (match prm cn with
        | some w => w as x
        | none => bif ev_chk shp (dat cn).2.2.2 (dat cn).1 as then ev shp rfT cod dat prm md f cn 0 (ev_ent as (dat cn).1) [] x else none) = some o → ev_chk shp (dat cn).2.2.2 (dat cn).1 as = true ∧ ev_le x o.1 ∧ ((∀ v ∈ as, sn_okv shp x.2.2.1 v) → sn_Met shp rfT fty D cls cA ad base stc dat bys nam rty frm lco Ts nws sts EX l md cn as x o) := fun cn hpn as x o ho => by
        rw [hpn] at ho
        obtain ⟨hck, ho⟩ := bif_some ho
        refine ⟨hck, ev_mono hpm f cn 0 _ [] x o ho, fun hok => so_met hX ih hpn ?_ hok ho⟩
        unfold ev_chk at hck
        exact Nat.le_of_ble_eq_true ((Bool.and_eq_true _ _).mp hck).1
      cases ins
      case aload j => exact w_rld f1 f2 hk (Or.inr ⟨hd, hx⟩) h9
      case aload_n j => exact w_rld f1 f2 hk (Or.inl ⟨j, hd, hx, rfl⟩) h9
      case iload j => exact w_ild f1 f2 hk (Or.inr ⟨hd, hx⟩) h9
      case iload_n j => exact w_ild f1 f2 hk (Or.inl ⟨j, hd, hx, rfl⟩) h9
      case lload j => exact w_lld f1 f2 hk (Or.inr ⟨hd, hx⟩) h9
      case lload_n j => exact w_lld f1 f2 hk (Or.inl ⟨j, hd, hx, rfl⟩) h9
      case astore j => exact w_rst f1 f2 hk hx.2 (Or.inr ⟨hd, hx.1⟩) h9
      case astore_n j => exact w_rst f1 f2 hk hx.2 (Or.inl ⟨j, hd, hx.1, rfl⟩) h9
      case istore j => exact w_ist f1 f2 hk hx.2 (Or.inr ⟨hd, hx.1⟩) h9
      case istore_n j => exact w_ist f1 f2 hk hx.2 (Or.inl ⟨j, hd, hx.1, rfl⟩) h9
      case lstore j => exact w_lst f1 f2 hk hx.2 (Or.inr ⟨hd, hx.1⟩) h9
      case lstore_n j => exact w_lst f1 f2 hk hx.2 (Or.inl ⟨j, hd, hx.1, rfl⟩) h9
      case iinc j v => exact w_inc f1 f2 hk hx.2 ⟨hd, hx.1⟩ h9
      case iconst v =>
        obtain ⟨rfl, rfl⟩ := hx
        exact w_push (v := vI (cI _)) hk (fun H locs cells slots ls rest kk => lv_iconst f1 f2 hd rfl kk) trivial h9
      case bipush v =>
        obtain ⟨rfl, hv⟩ := hx
        exact w_push (v := vI (cI _)) hk (fun H locs cells slots ls rest kk => lv_bipush f1 f2 hd hv kk) trivial h9
      case sipush v =>
        obtain ⟨rfl, hv⟩ := hx
        exact w_push (v := vI (cI _)) hk (fun H locs cells slots ls rest kk => lv_sipush f1 f2 hd hv kk) trivial h9
      case ldc idx =>
        obtain ⟨rfl, hv⟩ := hx
        have h8 : s_ldc r pc 2 (ev shp rfT cod dat prm md f M) L' st x = some out := h9
        unfold s_ldc at h8
        cases hq2 : ev_str r with
        | false =>
          rw [hq2] at h8
          exact w_push (v := vI (cI r)) hk (fun H locs cells slots ls rest kk => lv_ldc f1 f2 f4 (hts _ (hv hq2)) hd kk) trivial h8
        | true =>
          rw [hq2] at h8
          obtain ⟨hok, hrow⟩ := hT M pc idx r dl hq hq2 hd
          generalize r.toNat = gg at hok hrow h8
          exact w_push (v := vR gg 0) hk (fun H locs cells slots ls rest kk => hrow p e R s m args below meth c Q H locs cells slots ls rest hF kk) (hok.mono shp (Nat.zero_le _)) h8
      case ldc_w idx =>
        obtain ⟨rfl, hq2, hv⟩ := hx
        have h8 : s_ldc r pc 3 (ev shp rfT cod dat prm md f M) L' st x = some out := h9
        unfold s_ldc at h8
        rw [hq2] at h8
        exact w_push (v := vI (cI r)) hk (fun H locs cells slots ls rest kk => lv_ldcw f1 f2 f4 (hts _ hv) hd kk) trivial h8
      case lconst d =>
        obtain ⟨rfl, hv⟩ := hx
        exact w_push (v := vL (cL _)) hk (fun H locs cells slots ls rest kk => lv_lconst f1 f2 hd hv kk) trivial h9
      case ldc2_w idx =>
        obtain ⟨rfl, hv⟩ := hx
        exact w_push (v := vL (cL _)) hk (fun H locs cells slots ls rest kk => lv_ldc2 f1 f2 f4 (hts _ hv) hd kk) trivial h9
      case getfield idx =>
        have h8 : (bif md && Nat.beq (r.toNat % 4) 3 then s_getr shp rfT r.toNat pc n (ev shp rfT cod dat prm md f M) L' st x else s_get shp rfT r.toNat pc n (ev shp rfT cod dat prm md f M) L' st x) = some out := h9
        cases hq2 : md && Nat.beq (r.toNat % 4) 3 with
        | false =>
          rw [hq2] at h8
          refine w_get f1 f2 hX1 hst0 hts f4 hC hK hx.2 hk ⟨hd, hx.1⟩ (fun h1 h2 => ?_) h8
          rw [h1, h2] at hq2
          cases hq2
        | true =>
          rw [hq2] at h8
          exact w_getr f1 f2 hX1 hst0 hts f4 hC hK hx.2 hk ⟨hd, hx.1⟩ h8
      case putfield idx =>
        obtain ⟨hn, hF1, hP1⟩ := hx
        rw [← hnm] at hP1
        have h8 : (bif Nat.beq (r.toNat % 4) 3 then (bif md then s_putr shp rfT r.toNat pc n (ev shp rfT cod dat prm md f M) L' st x else none) else s_put shp r.toNat pc n (ev shp rfT cod dat prm md f M) L' st x) = some out := h9
        cases hq2 : Nat.beq (r.toNat % 4) 3 with
        | false =>
          rw [hq2] at h8
          exact w_put f1 f2 hX1 hst0 hts f4 hC hK hF1 hP1 hk ⟨hd, hn⟩ h8
        | true =>
          rw [hq2] at h8
          have h8 : (bif md then s_putr shp rfT r.toNat pc n (ev shp rfT cod dat prm md f M) L' st x else none) = some out := h8
          obtain ⟨h7, h8⟩ := bif_some h8
          subst h7
          exact w_putr f1 f2 hX1 hst0 hts f4 hC hK hF1 hP1 (Nat.eq_of_beq_eq_true hq2) hk ⟨hd, hn⟩ h8
      case getstatic idx =>
        obtain ⟨rfl, ⟨C, nn, d, hm, hl⟩, h1000, hcn⟩ := hx
        intro H locs cells slots ls S
        refine va_gets f1 f2 (hWK.2.2.2.1 _ hm) S.2.1 f4 (hts _ hl) (fun _ h => h) hd ?_
        have h8 : ev shp rfT cod dat prm md f M (pc + 3) L' (vR r.toNat 0 :: st) x = some out := h9
        exact hk _ _ _ _ h8 H locs cells slots ls (S.stk (sn_ok1 (v := vR r.toNat 0) ⟨Or.inr ⟨h1000, rfl⟩, hcn⟩ S.2.2.2.1))
      case iaload => subst hx; exact w_iald f1 f2 hX1 hK hst hk hd h9
      case baload => subst hx; exact w_bald f1 f2 hX1 hK hst hk hd h9
      case laload => subst hx; exact w_lald f1 f2 hX1 hK hst hk hd h9
      case aaload => subst hx; exact w_aald f1 f2 hX1 hK hst hk hd h9
      case iastore => subst hx; exact w_iast f1 f2 hX1 hK hstw hk hd h9
      case bastore => subst hx; exact w_bast f1 f2 hX1 hK hstw hk hd h9
      case lastore => subst hx; exact w_last f1 f2 hX1 hK hstw hk hd h9
      case arraylength => subst hx; exact w_alen f1 f2 hX1 hK hst hk hd h9
      case iadd => subst hx; exact w_bin hk (fun H locs cells slots ls rest a b kk => lv_iadd f1 f2 hd kk) h9
      case isub => subst hx; exact w_bin hk (fun H locs cells slots ls rest a b kk => lv_isub f1 f2 hd kk) h9
      case imul => subst hx; exact w_bin hk (fun H locs cells slots ls rest a b kk => lv_imul f1 f2 hd kk) h9
      case idiv => subst hx; exact w_div hk (fun H locs cells slots ls rest a b hne kk => lv_idiv f1 f2 hd hne kk) h9
      case irem => subst hx; exact w_div hk (fun H locs cells slots ls rest a b hne kk => lv_irem f1 f2 hd hne kk) h9
      case iand => subst hx; exact w_bin hk (fun H locs cells slots ls rest a b kk => lv_iand f1 f2 hd kk) h9
      case ior => subst hx; exact w_bin hk (fun H locs cells slots ls rest a b kk => lv_ior f1 f2 hd kk) h9
      case ixor => subst hx; exact w_bin hk (fun H locs cells slots ls rest a b kk => lv_ixor f1 f2 hd kk) h9
      case ishl => subst hx; exact w_bin hk (fun H locs cells slots ls rest a b kk => lv_ishl f1 f2 hd kk) h9
      case ishr => subst hx; exact w_bin hk (fun H locs cells slots ls rest a b kk => lv_ishr f1 f2 hd kk) h9
      case iushr => subst hx; exact w_bin hk (fun H locs cells slots ls rest a b kk => lv_iushr f1 f2 hd rfl kk) h9
      case ineg => subst hx; exact w_un hk (fun H locs cells slots ls rest a kk => lv_ineg f1 f2 hd kk) h9
      case i2b => subst hx; exact w_un hk (fun H locs cells slots ls rest a kk => lv_i2b f1 f2 hd rfl kk) h9
      case i2c => subst hx; exact w_un hk (fun H locs cells slots ls rest a kk => lv_i2c f1 f2 hd rfl kk) h9
      case i2l => subst hx; exact w_i2l f1 f2 hk hd h9
      case l2i => subst hx; exact w_l2i f1 f2 hk hd h9
      case ladd => subst hx; exact w_lbin hk (fun H locs cells slots ls rest a b kk => lv_ladd f1 f2 hd kk) h9
      case lsub => subst hx; exact w_lbin hk (fun H locs cells slots ls rest a b kk => lv_lsub f1 f2 hd kk) h9
      case lmul => subst hx; exact w_lbin hk (fun H locs cells slots ls rest a b kk => lv_lmul f1 f2 hd kk) h9
      case ldiv => subst hx; exact w_ldiv hk (fun H locs cells slots ls rest a b hne kk => lv_ldiv f1 f2 hd hne kk) h9
      case lrem => subst hx; exact w_ldiv hk (fun H locs cells slots ls rest a b hne kk => lv_lrem f1 f2 hd hne kk) h9
      case lcmp => subst hx; exact w_lcmp f1 f2 hk hd h9
      case dup => subst hx; exact w_dup f1 f2 hk hd h9
      case dup_x1 => subst hx; exact w_dupx1 f1 f2 hk hd h9
      case dup_x2 => subst hx; exact w_dupx2 f1 f2 hk hd h9
      case dup2 => subst hx; exact w_dup2 f1 f2 hk hd h9
      case pop => subst hx; exact w_pop f1 f2 hk hd h9
      case goto off =>
        obtain ⟨rfl, ht⟩ := hx
        exact w_goto f1 f2 hk hd ht h9
      case ifCond q off => exact w_if f1 f2 hk ⟨hd, hx.1⟩ hx.2 h9
      case if_icmp q off => exact w_icmp f1 f2 hk ⟨hd, hx.1⟩ hx.2 h9
      case tableswitch d lo hi os => exact w_tab f1 f2 hk hd hx.1 hx.2.1 hx.2.2.1 hx.2.2.2.1 hx.2.2.2.2 h9
      case lookupswitch d ps => exact w_lkp f1 f2 hk hd hx.1 hx.2.1 (off_nonneg _ hx.2.2.1 hx.2.2.2) h9
      case invokestatic idx =>
        obtain ⟨rfl, hx⟩ := hx
        cases hpr : prm r.toNat with
        | none =>
          obtain ⟨hx1, hx2⟩ := hx hpr
          exact w_call_S F hgood hWK hx1 (hroom _ hx2) hR hmk hk hd (fun as x o ho => (hcf _ hpr as x o ho).2) h9
        | some w =>
          refine hP M pc idx r dl _ hq hd (Or.inl rfl) w hpr p e R s m args below meth c Q c0 s0 out _ L' st x hF hR hmk hk ?_
          have e9 : (fun as s => match prm r.toNat with
            | some w => w as s
            | none => bif ev_chk shp (dat r.toNat).2.2.2 (dat r.toNat).1 as then ev shp rfT cod dat prm md f r.toNat 0 (ev_ent as (dat r.toNat).1) [] s else none) = w := by rw [hpr]
          rw [← e9]
          exact h9
      case invokevirtual idx =>
        obtain ⟨rfl, hx⟩ := hx
        cases hpr : prm r.toNat with
        | none =>
          obtain ⟨hx1, hx2⟩ := hx hpr
          exact w_call_V hX1 hst0 F hgood hWK hx1 (hroom _ hx2) hR hmk hk hd (fun as x o ho => hcf _ hpr as x o ho) h9
        | some w =>
          refine hP M pc idx r dl _ hq hd (Or.inr (Or.inl rfl)) w hpr p e R s m args below meth c Q c0 s0 out _ L' st x hF hR hmk hk ?_
          have e9 : (fun as s => match prm r.toNat with
            | some w => w as s
            | none => bif ev_chk shp (dat r.toNat).2.2.2 (dat r.toNat).1 as then ev shp rfT cod dat prm md f r.toNat 0 (ev_ent as (dat r.toNat).1) [] s else none) = w := by rw [hpr]
          rw [← e9]
          exact h9
      case invokespecial idx =>
        obtain ⟨rfl, hx⟩ := hx
        cases hpr : prm r.toNat with
        | none =>
          obtain ⟨hx1, hx2⟩ := hx hpr
          exact w_call_I hX1 F hgood hWK hx1 (hroom _ hx2) hR hmk hk hd (fun as x o ho => hcf _ hpr as x o ho) h9
        | some w =>
          refine hP M pc idx r dl _ hq hd (Or.inr (Or.inr rfl)) w hpr p e R s m args below meth c Q c0 s0 out _ L' st x hF hR hmk hk ?_
          have e9 : (fun as s => match prm r.toNat with
            | some w => w as s
            | none => bif ev_chk shp (dat r.toNat).2.2.2 (dat r.toNat).1 as then ev shp rfT cod dat prm md f r.toNat 0 (ev_ent as (dat r.toNat).1) [] s else none) = w := by rw [hpr]
          rw [← e9]
          exact h9
      case ireturn =>
        obtain ⟨rfl, hx⟩ := hx
        intro H locs cells slots ls S
        have h8 : s_ret (dat M).2.2.1 st x = some out := h9
        unfold s_ret at h8
        split at h8
        · next z =>
          rcases hx with ⟨hb, hr⟩ | ⟨hb, hr⟩
          · rw [hb] at h8
            cases h8
            exact hN pc H locs cells slots ls S.1 S.2.1 S.2.2.2.2.1 S.2.2.2.2.2 (Or.inl ⟨hd, z, rfl, Or.inl hr⟩)
          · rw [hb] at h8
            have h8 : (if bz z = true then some (x, [vI z]) else none) = some out := h8
            split at h8
            · next hz =>
              cases h8
              exact hN pc H locs cells slots ls S.1 S.2.1 S.2.2.2.2.1 S.2.2.2.2.2 (Or.inl ⟨hd, z, rfl, Or.inr ⟨hr, hz⟩⟩)
            · cases h8
        · cases h8
      case lreturn =>
        obtain ⟨rfl, hr⟩ := hx
        intro H locs cells slots ls S
        have h8 : s_lret st x = some out := h9
        unfold s_lret at h8
        split at h8
        · next z =>
          cases h8
          exact hN pc H locs cells slots ls S.1 S.2.1 S.2.2.2.2.1 S.2.2.2.2.2 (Or.inr (Or.inl ⟨hd, hr, z, rfl⟩))
        · cases h8
      case return_ =>
        obtain ⟨rfl, hr⟩ := hx
        intro H locs cells slots ls S
        simp only [ev_sem] at h9
        split at h9
        · cases h9
          exact hN pc H locs cells slots ls S.1 S.2.1 S.2.2.2.2.1 S.2.2.2.2.2 (Or.inr (Or.inr ⟨hd, hr, rfl⟩))
        · cases h9
      case new idx =>
        obtain ⟨rfl, hx⟩ := hx
        obtain ⟨h7, h8⟩ := bif_some (show (bif md then s_new shp r.toNat pc (ev shp rfT cod dat prm md f M) L' st x else none) = some out from h9)
        subst h7
        exact w_new f1 f2 hX1 hst0 hts f4 hC hTy hK hx hw0 hR hmo hk hd h8
      case newarray a =>
        obtain ⟨rfl, hx1, hx2⟩ := hx
        obtain ⟨h7, h8⟩ := bif_some (show (bif md then s_newa shp r.toNat pc (ev shp rfT cod dat prm md f M) L' st x else none) = some out from h9)
        subst h7
        exact w_newa f1 f2 hX1 hstw hsz hts hK hx1 hx2 hR hmo hk hd h8
      case multianewarray idx d =>
        obtain ⟨rfl, rfl, hx1, hx2⟩ := hx
        obtain ⟨h7, h8⟩ := bif_some (show (bif md then s_newm shp pc (ev shp rfT cod dat prm md f M) L' st x else none) = some out from h9)
        subst h7
        exact w_newm f1 f2 hX1 hstw hsz hst5 hts f4 hK ⟨hx1, hx2⟩ hWK.2.2.1 hR hmo hk hd h8
      all_goals exact absurd h9 (by simp [ev_sem])
    · cases h9
end IND
