def f_L_c24 (N Ln : Nat) (xs : Nat → Int32) (v4 : Int32) (M : Mm) : Option (Bool × Mm) :=
  grd (inb (v4 + (1 : Int32)) Ln) (grd (inb (v4 + (2 : Int32)) Ln) (bnd (f_L_fewest N (xs ((v4 + (1 : Int32))).toNatClampNeg) (xs ((v4 + (2 : Int32))).toNatClampNeg) M) (fun r3 M4 => grd (inb (v4 + (1 : Int32)) Ln) (grd (inb (v4 + (2 : Int32)) Ln) (bnd (f_X11_fewest N (xs ((v4 + (1 : Int32))).toNatClampNeg) (xs ((v4 + (2 : Int32))).toNatClampNeg) M4) (fun r8 M9 => bnd (f_X11_thrown N M9) (fun r11 M12 => (if r11 = r3 then (if r3 = (0 : Int32) then grd (inb (0 : Int32) 1) ((if (lg_cmp (M12 219 ((0 : Int32)).toNatClampNeg).toInt64 (r8).toInt64) = (0 : Int32) then some (true, M12) else some (false, M12))) else some (true, M12)) else some (false, M12)))))))))
set_option maxRecDepth 20000 in
set_option maxHeartbeats 4000000 in
theorem okc_24 {N Ln : Nat} {xs : Nat → Int32} {X : am_X} {l : Launch} (hl : l.stackTraces = false) (hC : am_C X l room_1 cL_law_ RL (some .boolean)) (hs : am_SC X xs Ln) {v4 : Int32} {M M' : Mm} {ce sl : Nat} {Q : State → Prop} (hce : ce + 100 ≤ 601024) (hsl : sl + 1000 ≤ 7293034) (h : f_L_c24 N Ln xs v4 M = some (true, M')) (k : am_V X LY M' (ce + 3) (sl + 18) Q 2644 [some (.ref am_sc), some (.ref 0), some (.ref 208), some (.ref 219), some (.int v4), none, none] []) : am_V X LY M ce sl Q 1560 [some (.ref am_sc), some (.ref 0), some (.ref 208), some (.ref 219), some (.int v4), none, none] [] := by
  unfold f_L_c24 at h
  refine v_aload_n hC dL_law__1560 rfl ?_
  refine v_aload_n hC dL_law__1561 rfl ?_
  refine v_iload hC dL_law__1562 rfl ?_
  refine v_iconst (v := (1 : Int32)) hC dL_law__1564 rfl ?_
  refine v_iadd hC dL_law__1565 ?_
  obtain ⟨g1, h⟩ := grd_some h
  refine v_ssl hC hs (inb_in g1) dL_law__1566 ?_
  refine v_aload_n hC dL_law__1567 rfl ?_
  refine v_iload hC dL_law__1568 rfl ?_
  refine v_iconst (v := (2 : Int32)) hC dL_law__1570 rfl ?_
  refine v_iadd hC dL_law__1571 ?_
  obtain ⟨g2, h⟩ := grd_some h
  refine v_ssl hC hs (inb_in g2) dL_law__1572 ?_
  refine v_aload_n hC dL_law__1573 rfl ?_
  obtain ⟨r3, M4, q5, h⟩ := bnd_some h
  refine w_callSH hC [.ref 0, .int (xs ((v4 + (1 : Int32))).toNatClampNeg), .int (xs ((v4 + (2 : Int32))).toNatClampNeg), .ref 219] [] (ok_L_fewest hl q5) mh_L_fewest aw_1063 rfl (Nat.le_of_ble_eq_true rfl) ⟨by decide, by decide⟩ ⟨by show _ ≤ 601024; omega, by show _ ≤ 7293034; omega⟩ dL_law__1574 ?_
  refine w_istore hC dL_law__1577 (ltk rfl) [some (.ref am_sc), some (.ref 0), some (.ref 208), some (.ref 219), some (.int v4), some (.int r3), none] rfl ?_
  refine v_aload_n hC dL_law__1579 rfl ?_
  refine v_aload_n hC dL_law__1580 rfl ?_
  refine v_iload hC dL_law__1581 rfl ?_
  refine v_iconst (v := (1 : Int32)) hC dL_law__1583 rfl ?_
  refine v_iadd hC dL_law__1584 ?_
  obtain ⟨g6, h⟩ := grd_some h
  refine v_ssl hC hs (inb_in g6) dL_law__1585 ?_
  refine v_aload_n hC dL_law__1586 rfl ?_
  refine v_iload hC dL_law__1587 rfl ?_
  refine v_iconst (v := (2 : Int32)) hC dL_law__1589 rfl ?_
  refine v_iadd hC dL_law__1590 ?_
  obtain ⟨g7, h⟩ := grd_some h
  refine v_ssl hC hs (inb_in g7) dL_law__1591 ?_
  obtain ⟨r8, M9, q10, h⟩ := bnd_some h
  refine w_callVi hC [.int (xs ((v4 + (1 : Int32))).toNatClampNeg), .int (xs ((v4 + (2 : Int32))).toNatClampNeg)] [] (ok_X11_fewest q10) mv_X11_fewest aw_1698 ly_208 rfl (Nat.le_of_ble_eq_true rfl) ⟨by decide, by decide⟩ ⟨by show _ ≤ 601024; omega, by show _ ≤ 7293034; omega⟩ dL_law__1592 ?_
  refine w_istore hC dL_law__1595 (ltk rfl) [some (.ref am_sc), some (.ref 0), some (.ref 208), some (.ref 219), some (.int v4), some (.int r3), some (.int r8)] rfl ?_
  refine v_aload_n hC dL_law__1597 rfl ?_
  obtain ⟨r11, M12, q13, h⟩ := bnd_some h
  refine w_callVi hC [] [] (ok_X11_thrown q13) mv_X11_thrown aw_1221 ly_208 rfl (Nat.le_of_ble_eq_true rfl) ⟨by decide, by decide⟩ ⟨by show _ ≤ 601024; omega, by show _ ≤ 7293034; omega⟩ dL_law__1598 ?_
  refine v_iload hC dL_law__1601 rfl ?_
  refine v_icmp_eq hC 1608 dL_law__1603 rfl (fun c14 => ?_) (fun c14 => ?_)
  · rw [if_pos c14] at h
    refine v_iload hC dL_law__1608 rfl ?_
    refine v_if_ne hC 1625 dL_law__1610 rfl (fun c15 => ?_) (fun c15 => ?_)
    · rw [if_neg c15] at h
      refine v_goto (tg := 2644) hC dL_law__1625 rfl ?_
      refine v_drop [true, true, true, true, true, false, false] [some (.ref am_sc), some (.ref 0), some (.ref 208), some (.ref 219), some (.int v4), none, none] rfl ?_
      cases h
      exact v_widen (k := ce + 3) (n := sl + 18) (by omega) (by omega) k
    · rw [if_pos c15] at h
      refine v_aload_n hC dL_law__1613 rfl ?_
      refine v_iconst (v := (0 : Int32)) hC dL_law__1614 rfl ?_
      obtain ⟨g16, h⟩ := grd_some h
      refine v_lald hC ly_219 (inb_in g16) dL_law__1615 ?_
      refine v_iload hC dL_law__1616 rfl ?_
      refine v_i2l hC dL_law__1618 ?_
      refine v_lcmp hC dL_law__1619 ?_
      refine v_if_eq hC 1625 dL_law__1620 rfl (fun c17 => ?_) (fun c17 => ?_)
      · rw [if_pos c17] at h
        refine v_goto (tg := 2644) hC dL_law__1625 rfl ?_
        refine v_drop [true, true, true, true, true, false, false] [some (.ref am_sc), some (.ref 0), some (.ref 208), some (.ref 219), some (.int v4), none, none] rfl ?_
        cases h
        exact v_widen (k := ce + 3) (n := sl + 18) (by omega) (by omega) k
      · rw [if_neg c17] at h
        cases h
  · rw [if_neg c14] at h
    cases h
def f_L_c25 (N Ln : Nat) (xs : Nat → Int32) (v4 : Int32) (M : Mm) : Option (Bool × Mm) :=
  grd (inb (v4 + (1 : Int32)) Ln) ((if (xs ((v4 + (1 : Int32))).toNatClampNeg) = (0 : Int32) then bnd (f_L_bribes N (0 : Int32) M) (fun r3 M4 => grd (inb (v4 + (1 : Int32)) Ln) ((if (xs ((v4 + (1 : Int32))).toNatClampNeg) = (0 : Int32) then bnd (f_X11_bribes N (0 : Int32) M4) (fun r8 M9 => bnd (f_X11_thrown N M9) (fun r11 M12 => (if r11 = r3 then (if r3 = (0 : Int32) then grd (inb (0 : Int32) 1) ((if (lg_cmp (M12 219 ((0 : Int32)).toNatClampNeg).toInt64 (r8).toInt64) = (0 : Int32) then some (true, M12) else some (false, M12))) else some (true, M12)) else some (false, M12)))) else bnd (f_X11_bribes N (1 : Int32) M4) (fun r18 M19 => bnd (f_X11_thrown N M19) (fun r21 M22 => (if r21 = r3 then (if r3 = (0 : Int32) then grd (inb (0 : Int32) 1) ((if (lg_cmp (M22 219 ((0 : Int32)).toNatClampNeg).toInt64 (r18).toInt64) = (0 : Int32) then some (true, M22) else some (false, M22))) else some (true, M22)) else some (false, M22))))))) else bnd (f_L_bribes N (1 : Int32) M) (fun r28 M29 => grd (inb (v4 + (1 : Int32)) Ln) ((if (xs ((v4 + (1 : Int32))).toNatClampNeg) = (0 : Int32) then bnd (f_X11_bribes N (0 : Int32) M29) (fun r33 M34 => bnd (f_X11_thrown N M34) (fun r36 M37 => (if r36 = r28 then (if r28 = (0 : Int32) then grd (inb (0 : Int32) 1) ((if (lg_cmp (M37 219 ((0 : Int32)).toNatClampNeg).toInt64 (r33).toInt64) = (0 : Int32) then some (true, M37) else some (false, M37))) else some (true, M37)) else some (false, M37)))) else bnd (f_X11_bribes N (1 : Int32) M29) (fun r43 M44 => bnd (f_X11_thrown N M44) (fun r46 M47 => (if r46 = r28 then (if r28 = (0 : Int32) then grd (inb (0 : Int32) 1) ((if (lg_cmp (M47 219 ((0 : Int32)).toNatClampNeg).toInt64 (r43).toInt64) = (0 : Int32) then some (true, M47) else some (false, M47))) else some (true, M47)) else some (false, M47)))))))))
set_option maxRecDepth 20000 in
set_option maxHeartbeats 4000000 in
theorem okc_25 {N Ln : Nat} {xs : Nat → Int32} {X : am_X} {l : Launch} (hl : l.stackTraces = false) (hC : am_C X l room_1 cL_law_ RL (some .boolean)) (hs : am_SC X xs Ln) {v4 : Int32} {M M' : Mm} {ce sl : Nat} {Q : State → Prop} (hce : ce + 100 ≤ 601024) (hsl : sl + 1000 ≤ 7293034) (h : f_L_c25 N Ln xs v4 M = some (true, M')) (k : am_V X LY M' (ce + 3) (sl + 18) Q 2644 [some (.ref am_sc), some (.ref 0), some (.ref 208), some (.ref 219), some (.int v4), none, none] []) : am_V X LY M ce sl Q 1628 [some (.ref am_sc), some (.ref 0), some (.ref 208), some (.ref 219), some (.int v4), none, none] [] := by
  unfold f_L_c25 at h
  refine v_aload_n hC dL_law__1628 rfl ?_
  refine v_aload_n hC dL_law__1629 rfl ?_
  refine v_iload hC dL_law__1630 rfl ?_
  refine v_iconst (v := (1 : Int32)) hC dL_law__1632 rfl ?_
  refine v_iadd hC dL_law__1633 ?_
  obtain ⟨g1, h⟩ := grd_some h
  refine v_ssl hC hs (inb_in g1) dL_law__1634 ?_
  refine v_if_eq hC 1642 dL_law__1635 rfl (fun c2 => ?_) (fun c2 => ?_)
  · rw [if_pos c2] at h
    refine v_iconst (v := (0 : Int32)) hC dL_law__1642 rfl ?_
    refine v_aload_n hC dL_law__1643 rfl ?_
    obtain ⟨r3, M4, q5, h⟩ := bnd_some h
    refine w_callSH hC [.ref 0, .int (0 : Int32), .ref 219] [] (ok_L_bribes hl q5) mh_L_bribes aw_1070 rfl (Nat.le_of_ble_eq_true rfl) ⟨by decide, by decide⟩ ⟨by show _ ≤ 601024; omega, by show _ ≤ 7293034; omega⟩ dL_law__1644 ?_
    refine w_istore hC dL_law__1647 (ltk rfl) [some (.ref am_sc), some (.ref 0), some (.ref 208), some (.ref 219), some (.int v4), some (.int r3), none] rfl ?_
    refine v_aload_n hC dL_law__1649 rfl ?_
    refine v_aload_n hC dL_law__1650 rfl ?_
    refine v_iload hC dL_law__1651 rfl ?_
    refine v_iconst (v := (1 : Int32)) hC dL_law__1653 rfl ?_
    refine v_iadd hC dL_law__1654 ?_
    obtain ⟨g6, h⟩ := grd_some h
    refine v_ssl hC hs (inb_in g6) dL_law__1655 ?_
    refine v_if_eq hC 1663 dL_law__1656 rfl (fun c7 => ?_) (fun c7 => ?_)
    · rw [if_pos c7] at h
      refine v_iconst (v := (0 : Int32)) hC dL_law__1663 rfl ?_
      obtain ⟨r8, M9, q10, h⟩ := bnd_some h
      refine w_callVi hC [.int (0 : Int32)] [] (ok_X11_bribes q10) mv_X11_bribes aw_1711 ly_208 rfl (Nat.le_of_ble_eq_true rfl) ⟨by decide, by decide⟩ ⟨by show _ ≤ 601024; omega, by show _ ≤ 7293034; omega⟩ dL_law__1664 ?_
      refine w_istore hC dL_law__1667 (ltk rfl) [some (.ref am_sc), some (.ref 0), some (.ref 208), some (.ref 219), some (.int v4), some (.int r3), some (.int r8)] rfl ?_
      refine v_aload_n hC dL_law__1669 rfl ?_
      obtain ⟨r11, M12, q13, h⟩ := bnd_some h
      refine w_callVi hC [] [] (ok_X11_thrown q13) mv_X11_thrown aw_1221 ly_208 rfl (Nat.le_of_ble_eq_true rfl) ⟨by decide, by decide⟩ ⟨by show _ ≤ 601024; omega, by show _ ≤ 7293034; omega⟩ dL_law__1670 ?_
      refine v_iload hC dL_law__1673 rfl ?_
      refine v_icmp_eq hC 1680 dL_law__1675 rfl (fun c14 => ?_) (fun c14 => ?_)
      · rw [if_pos c14] at h
        refine v_iload hC dL_law__1680 rfl ?_
        refine v_if_ne hC 1697 dL_law__1682 rfl (fun c15 => ?_) (fun c15 => ?_)
        · rw [if_neg c15] at h
          refine v_goto (tg := 2644) hC dL_law__1697 rfl ?_
          refine v_drop [true, true, true, true, true, false, false] [some (.ref am_sc), some (.ref 0), some (.ref 208), some (.ref 219), some (.int v4), none, none] rfl ?_
          cases h
          exact v_widen (k := ce + 3) (n := sl + 18) (by omega) (by omega) k
        · rw [if_pos c15] at h
          refine v_aload_n hC dL_law__1685 rfl ?_
          refine v_iconst (v := (0 : Int32)) hC dL_law__1686 rfl ?_
          obtain ⟨g16, h⟩ := grd_some h
          refine v_lald hC ly_219 (inb_in g16) dL_law__1687 ?_
          refine v_iload hC dL_law__1688 rfl ?_
          refine v_i2l hC dL_law__1690 ?_
          refine v_lcmp hC dL_law__1691 ?_
          refine v_if_eq hC 1697 dL_law__1692 rfl (fun c17 => ?_) (fun c17 => ?_)
          · rw [if_pos c17] at h
            refine v_goto (tg := 2644) hC dL_law__1697 rfl ?_
            refine v_drop [true, true, true, true, true, false, false] [some (.ref am_sc), some (.ref 0), some (.ref 208), some (.ref 219), some (.int v4), none, none] rfl ?_
            cases h
            exact v_widen (k := ce + 3) (n := sl + 18) (by omega) (by omega) k
          · rw [if_neg c17] at h
            cases h
      · rw [if_neg c14] at h
        cases h
    · rw [if_neg c7] at h
      refine v_iconst (v := (1 : Int32)) hC dL_law__1659 rfl ?_
      refine v_goto (tg := 1664) hC dL_law__1660 rfl ?_
      obtain ⟨r18, M19, q20, h⟩ := bnd_some h
      refine w_callVi hC [.int (1 : Int32)] [] (ok_X11_bribes q20) mv_X11_bribes aw_1711 ly_208 rfl (Nat.le_of_ble_eq_true rfl) ⟨by decide, by decide⟩ ⟨by show _ ≤ 601024; omega, by show _ ≤ 7293034; omega⟩ dL_law__1664 ?_
      refine w_istore hC dL_law__1667 (ltk rfl) [some (.ref am_sc), some (.ref 0), some (.ref 208), some (.ref 219), some (.int v4), some (.int r3), some (.int r18)] rfl ?_
      refine v_aload_n hC dL_law__1669 rfl ?_
      obtain ⟨r21, M22, q23, h⟩ := bnd_some h
      refine w_callVi hC [] [] (ok_X11_thrown q23) mv_X11_thrown aw_1221 ly_208 rfl (Nat.le_of_ble_eq_true rfl) ⟨by decide, by decide⟩ ⟨by show _ ≤ 601024; omega, by show _ ≤ 7293034; omega⟩ dL_law__1670 ?_
      refine v_iload hC dL_law__1673 rfl ?_
      refine v_icmp_eq hC 1680 dL_law__1675 rfl (fun c24 => ?_) (fun c24 => ?_)
      · rw [if_pos c24] at h
        refine v_iload hC dL_law__1680 rfl ?_
        refine v_if_ne hC 1697 dL_law__1682 rfl (fun c25 => ?_) (fun c25 => ?_)
        · rw [if_neg c25] at h
          refine v_goto (tg := 2644) hC dL_law__1697 rfl ?_
          refine v_drop [true, true, true, true, true, false, false] [some (.ref am_sc), some (.ref 0), some (.ref 208), some (.ref 219), some (.int v4), none, none] rfl ?_
          cases h
          exact v_widen (k := ce + 3) (n := sl + 18) (by omega) (by omega) k
        · rw [if_pos c25] at h
          refine v_aload_n hC dL_law__1685 rfl ?_
          refine v_iconst (v := (0 : Int32)) hC dL_law__1686 rfl ?_
          obtain ⟨g26, h⟩ := grd_some h
          refine v_lald hC ly_219 (inb_in g26) dL_law__1687 ?_
          refine v_iload hC dL_law__1688 rfl ?_
          refine v_i2l hC dL_law__1690 ?_
          refine v_lcmp hC dL_law__1691 ?_
          refine v_if_eq hC 1697 dL_law__1692 rfl (fun c27 => ?_) (fun c27 => ?_)
          · rw [if_pos c27] at h
            refine v_goto (tg := 2644) hC dL_law__1697 rfl ?_
            refine v_drop [true, true, true, true, true, false, false] [some (.ref am_sc), some (.ref 0), some (.ref 208), some (.ref 219), some (.int v4), none, none] rfl ?_
            cases h
            exact v_widen (k := ce + 3) (n := sl + 18) (by omega) (by omega) k
          · rw [if_neg c27] at h
            cases h
      · rw [if_neg c24] at h
        cases h
  · rw [if_neg c2] at h
    refine v_iconst (v := (1 : Int32)) hC dL_law__1638 rfl ?_
    refine v_goto (tg := 1643) hC dL_law__1639 rfl ?_
    refine v_aload_n hC dL_law__1643 rfl ?_
    obtain ⟨r28, M29, q30, h⟩ := bnd_some h
    refine w_callSH hC [.ref 0, .int (1 : Int32), .ref 219] [] (ok_L_bribes hl q30) mh_L_bribes aw_1070 rfl (Nat.le_of_ble_eq_true rfl) ⟨by decide, by decide⟩ ⟨by show _ ≤ 601024; omega, by show _ ≤ 7293034; omega⟩ dL_law__1644 ?_
    refine w_istore hC dL_law__1647 (ltk rfl) [some (.ref am_sc), some (.ref 0), some (.ref 208), some (.ref 219), some (.int v4), some (.int r28), none] rfl ?_
    refine v_aload_n hC dL_law__1649 rfl ?_
    refine v_aload_n hC dL_law__1650 rfl ?_
    refine v_iload hC dL_law__1651 rfl ?_
    refine v_iconst (v := (1 : Int32)) hC dL_law__1653 rfl ?_
    refine v_iadd hC dL_law__1654 ?_
    obtain ⟨g31, h⟩ := grd_some h
    refine v_ssl hC hs (inb_in g31) dL_law__1655 ?_
    refine v_if_eq hC 1663 dL_law__1656 rfl (fun c32 => ?_) (fun c32 => ?_)
    · rw [if_pos c32] at h
      refine v_iconst (v := (0 : Int32)) hC dL_law__1663 rfl ?_
      obtain ⟨r33, M34, q35, h⟩ := bnd_some h
      refine w_callVi hC [.int (0 : Int32)] [] (ok_X11_bribes q35) mv_X11_bribes aw_1711 ly_208 rfl (Nat.le_of_ble_eq_true rfl) ⟨by decide, by decide⟩ ⟨by show _ ≤ 601024; omega, by show _ ≤ 7293034; omega⟩ dL_law__1664 ?_
      refine w_istore hC dL_law__1667 (ltk rfl) [some (.ref am_sc), some (.ref 0), some (.ref 208), some (.ref 219), some (.int v4), some (.int r28), some (.int r33)] rfl ?_
      refine v_aload_n hC dL_law__1669 rfl ?_
      obtain ⟨r36, M37, q38, h⟩ := bnd_some h
      refine w_callVi hC [] [] (ok_X11_thrown q38) mv_X11_thrown aw_1221 ly_208 rfl (Nat.le_of_ble_eq_true rfl) ⟨by decide, by decide⟩ ⟨by show _ ≤ 601024; omega, by show _ ≤ 7293034; omega⟩ dL_law__1670 ?_
      refine v_iload hC dL_law__1673 rfl ?_
      refine v_icmp_eq hC 1680 dL_law__1675 rfl (fun c39 => ?_) (fun c39 => ?_)
      · rw [if_pos c39] at h
        refine v_iload hC dL_law__1680 rfl ?_
        refine v_if_ne hC 1697 dL_law__1682 rfl (fun c40 => ?_) (fun c40 => ?_)
        · rw [if_neg c40] at h
          refine v_goto (tg := 2644) hC dL_law__1697 rfl ?_
          refine v_drop [true, true, true, true, true, false, false] [some (.ref am_sc), some (.ref 0), some (.ref 208), some (.ref 219), some (.int v4), none, none] rfl ?_
          cases h
          exact v_widen (k := ce + 3) (n := sl + 18) (by omega) (by omega) k
        · rw [if_pos c40] at h
          refine v_aload_n hC dL_law__1685 rfl ?_
          refine v_iconst (v := (0 : Int32)) hC dL_law__1686 rfl ?_
          obtain ⟨g41, h⟩ := grd_some h
          refine v_lald hC ly_219 (inb_in g41) dL_law__1687 ?_
          refine v_iload hC dL_law__1688 rfl ?_
          refine v_i2l hC dL_law__1690 ?_
          refine v_lcmp hC dL_law__1691 ?_
          refine v_if_eq hC 1697 dL_law__1692 rfl (fun c42 => ?_) (fun c42 => ?_)
          · rw [if_pos c42] at h
            refine v_goto (tg := 2644) hC dL_law__1697 rfl ?_
            refine v_drop [true, true, true, true, true, false, false] [some (.ref am_sc), some (.ref 0), some (.ref 208), some (.ref 219), some (.int v4), none, none] rfl ?_
            cases h
            exact v_widen (k := ce + 3) (n := sl + 18) (by omega) (by omega) k
          · rw [if_neg c42] at h
            cases h
      · rw [if_neg c39] at h
        cases h
    · rw [if_neg c32] at h
      refine v_iconst (v := (1 : Int32)) hC dL_law__1659 rfl ?_
      refine v_goto (tg := 1664) hC dL_law__1660 rfl ?_
      obtain ⟨r43, M44, q45, h⟩ := bnd_some h
      refine w_callVi hC [.int (1 : Int32)] [] (ok_X11_bribes q45) mv_X11_bribes aw_1711 ly_208 rfl (Nat.le_of_ble_eq_true rfl) ⟨by decide, by decide⟩ ⟨by show _ ≤ 601024; omega, by show _ ≤ 7293034; omega⟩ dL_law__1664 ?_
      refine w_istore hC dL_law__1667 (ltk rfl) [some (.ref am_sc), some (.ref 0), some (.ref 208), some (.ref 219), some (.int v4), some (.int r28), some (.int r43)] rfl ?_
      refine v_aload_n hC dL_law__1669 rfl ?_
      obtain ⟨r46, M47, q48, h⟩ := bnd_some h
      refine w_callVi hC [] [] (ok_X11_thrown q48) mv_X11_thrown aw_1221 ly_208 rfl (Nat.le_of_ble_eq_true rfl) ⟨by decide, by decide⟩ ⟨by show _ ≤ 601024; omega, by show _ ≤ 7293034; omega⟩ dL_law__1670 ?_
      refine v_iload hC dL_law__1673 rfl ?_
      refine v_icmp_eq hC 1680 dL_law__1675 rfl (fun c49 => ?_) (fun c49 => ?_)
      · rw [if_pos c49] at h
        refine v_iload hC dL_law__1680 rfl ?_
        refine v_if_ne hC 1697 dL_law__1682 rfl (fun c50 => ?_) (fun c50 => ?_)
        · rw [if_neg c50] at h
          refine v_goto (tg := 2644) hC dL_law__1697 rfl ?_
          refine v_drop [true, true, true, true, true, false, false] [some (.ref am_sc), some (.ref 0), some (.ref 208), some (.ref 219), some (.int v4), none, none] rfl ?_
          cases h
          exact v_widen (k := ce + 3) (n := sl + 18) (by omega) (by omega) k
        · rw [if_pos c50] at h
          refine v_aload_n hC dL_law__1685 rfl ?_
          refine v_iconst (v := (0 : Int32)) hC dL_law__1686 rfl ?_
          obtain ⟨g51, h⟩ := grd_some h
          refine v_lald hC ly_219 (inb_in g51) dL_law__1687 ?_
          refine v_iload hC dL_law__1688 rfl ?_
          refine v_i2l hC dL_law__1690 ?_
          refine v_lcmp hC dL_law__1691 ?_
          refine v_if_eq hC 1697 dL_law__1692 rfl (fun c52 => ?_) (fun c52 => ?_)
          · rw [if_pos c52] at h
            refine v_goto (tg := 2644) hC dL_law__1697 rfl ?_
            refine v_drop [true, true, true, true, true, false, false] [some (.ref am_sc), some (.ref 0), some (.ref 208), some (.ref 219), some (.int v4), none, none] rfl ?_
            cases h
            exact v_widen (k := ce + 3) (n := sl + 18) (by omega) (by omega) k
          · rw [if_neg c52] at h
            cases h
      · rw [if_neg c49] at h
        cases h
def f_L_c26 (N Ln : Nat) (xs : Nat → Int32) (v4 : Int32) (M : Mm) : Option (Bool × Mm) :=
  grd (inb (v4 + (1 : Int32)) Ln) (bnd (f_L_ask N (xs ((v4 + (1 : Int32))).toNatClampNeg) M) (fun r2 M3 => grd (inb (v4 + (1 : Int32)) Ln) (bnd (f_X11_ask N (xs ((v4 + (1 : Int32))).toNatClampNeg) M3) (fun r6 M7 => bnd (f_X11_thrown N M7) (fun r9 M10 => (if r9 = r2 then (if r2 = (0 : Int32) then grd (inb (0 : Int32) 1) ((if (lg_cmp (M10 219 ((0 : Int32)).toNatClampNeg).toInt64 (r6).toInt64) = (0 : Int32) then some (true, M10) else some (false, M10))) else some (true, M10)) else some (false, M10)))))))
set_option maxRecDepth 20000 in
set_option maxHeartbeats 4000000 in
theorem okc_26 {N Ln : Nat} {xs : Nat → Int32} {X : am_X} {l : Launch} (hl : l.stackTraces = false) (hC : am_C X l room_1 cL_law_ RL (some .boolean)) (hs : am_SC X xs Ln) {v4 : Int32} {M M' : Mm} {ce sl : Nat} {Q : State → Prop} (hce : ce + 100 ≤ 601024) (hsl : sl + 1000 ≤ 7293034) (h : f_L_c26 N Ln xs v4 M = some (true, M')) (k : am_V X LY M' (ce + 3) (sl + 18) Q 2644 [some (.ref am_sc), some (.ref 0), some (.ref 208), some (.ref 219), some (.int v4), none, none] []) : am_V X LY M ce sl Q 1700 [some (.ref am_sc), some (.ref 0), some (.ref 208), some (.ref 219), some (.int v4), none, none] [] := by
  unfold f_L_c26 at h
  refine v_aload_n hC dL_law__1700 rfl ?_
  refine v_aload_n hC dL_law__1701 rfl ?_
  refine v_iload hC dL_law__1702 rfl ?_
  refine v_iconst (v := (1 : Int32)) hC dL_law__1704 rfl ?_
  refine v_iadd hC dL_law__1705 ?_
  obtain ⟨g1, h⟩ := grd_some h
  refine v_ssl hC hs (inb_in g1) dL_law__1706 ?_
  refine v_aload_n hC dL_law__1707 rfl ?_
  obtain ⟨r2, M3, q4, h⟩ := bnd_some h
  refine w_callSH hC [.ref 0, .int (xs ((v4 + (1 : Int32))).toNatClampNeg), .ref 219] [] (ok_L_ask hl q4) mh_L_ask aw_1103 rfl (Nat.le_of_ble_eq_true rfl) ⟨by decide, by decide⟩ ⟨by show _ ≤ 601024; omega, by show _ ≤ 7293034; omega⟩ dL_law__1708 ?_
  refine w_istore hC dL_law__1711 (ltk rfl) [some (.ref am_sc), some (.ref 0), some (.ref 208), some (.ref 219), some (.int v4), some (.int r2), none] rfl ?_
  refine v_aload_n hC dL_law__1713 rfl ?_
  refine v_aload_n hC dL_law__1714 rfl ?_
  refine v_iload hC dL_law__1715 rfl ?_
  refine v_iconst (v := (1 : Int32)) hC dL_law__1717 rfl ?_
  refine v_iadd hC dL_law__1718 ?_
  obtain ⟨g5, h⟩ := grd_some h
  refine v_ssl hC hs (inb_in g5) dL_law__1719 ?_
  obtain ⟨r6, M7, q8, h⟩ := bnd_some h
  refine w_callVi hC [.int (xs ((v4 + (1 : Int32))).toNatClampNeg)] [] (ok_X11_ask q8) mv_X11_ask aw_1723 ly_208 rfl (Nat.le_of_ble_eq_true rfl) ⟨by decide, by decide⟩ ⟨by show _ ≤ 601024; omega, by show _ ≤ 7293034; omega⟩ dL_law__1720 ?_
  refine w_istore hC dL_law__1723 (ltk rfl) [some (.ref am_sc), some (.ref 0), some (.ref 208), some (.ref 219), some (.int v4), some (.int r2), some (.int r6)] rfl ?_
  refine v_aload_n hC dL_law__1725 rfl ?_
  obtain ⟨r9, M10, q11, h⟩ := bnd_some h
  refine w_callVi hC [] [] (ok_X11_thrown q11) mv_X11_thrown aw_1221 ly_208 rfl (Nat.le_of_ble_eq_true rfl) ⟨by decide, by decide⟩ ⟨by show _ ≤ 601024; omega, by show _ ≤ 7293034; omega⟩ dL_law__1726 ?_
  refine v_iload hC dL_law__1729 rfl ?_
  refine v_icmp_eq hC 1736 dL_law__1731 rfl (fun c12 => ?_) (fun c12 => ?_)
  · rw [if_pos c12] at h
    refine v_iload hC dL_law__1736 rfl ?_
    refine v_if_ne hC 1753 dL_law__1738 rfl (fun c13 => ?_) (fun c13 => ?_)
    · rw [if_neg c13] at h
      refine v_goto (tg := 2644) hC dL_law__1753 rfl ?_
      refine v_drop [true, true, true, true, true, false, false] [some (.ref am_sc), some (.ref 0), some (.ref 208), some (.ref 219), some (.int v4), none, none] rfl ?_
      cases h
      exact v_widen (k := ce + 3) (n := sl + 18) (by omega) (by omega) k
    · rw [if_pos c13] at h
      refine v_aload_n hC dL_law__1741 rfl ?_
      refine v_iconst (v := (0 : Int32)) hC dL_law__1742 rfl ?_
      obtain ⟨g14, h⟩ := grd_some h
      refine v_lald hC ly_219 (inb_in g14) dL_law__1743 ?_
      refine v_iload hC dL_law__1744 rfl ?_
      refine v_i2l hC dL_law__1746 ?_
      refine v_lcmp hC dL_law__1747 ?_
      refine v_if_eq hC 1753 dL_law__1748 rfl (fun c15 => ?_) (fun c15 => ?_)
      · rw [if_pos c15] at h
        refine v_goto (tg := 2644) hC dL_law__1753 rfl ?_
        refine v_drop [true, true, true, true, true, false, false] [some (.ref am_sc), some (.ref 0), some (.ref 208), some (.ref 219), some (.int v4), none, none] rfl ?_
        cases h
        exact v_widen (k := ce + 3) (n := sl + 18) (by omega) (by omega) k
      · rw [if_neg c15] at h
        cases h
  · rw [if_neg c12] at h
    cases h
def f_L_c27 (N Ln : Nat) (xs : Nat → Int32) (v4 : Int32) (M : Mm) : Option (Bool × Mm) :=
  grd (inb (v4 + (1 : Int32)) Ln) (bnd (f_L_worst N (xs ((v4 + (1 : Int32))).toNatClampNeg) M) (fun r2 M3 => grd (inb (v4 + (1 : Int32)) Ln) (bnd (f_X11_worst N (xs ((v4 + (1 : Int32))).toNatClampNeg) M3) (fun r6 M7 => bnd (f_X11_thrown N M7) (fun r9 M10 => (if r9 = r2 then (if r2 = (0 : Int32) then grd (inb (0 : Int32) 1) ((if (lg_cmp (M10 219 ((0 : Int32)).toNatClampNeg).toInt64 (r6).toInt64) = (0 : Int32) then some (true, M10) else some (false, M10))) else some (true, M10)) else some (false, M10)))))))
set_option maxRecDepth 20000 in
set_option maxHeartbeats 4000000 in
theorem okc_27 {N Ln : Nat} {xs : Nat → Int32} {X : am_X} {l : Launch} (hl : l.stackTraces = false) (hC : am_C X l room_1 cL_law_ RL (some .boolean)) (hs : am_SC X xs Ln) {v4 : Int32} {M M' : Mm} {ce sl : Nat} {Q : State → Prop} (hce : ce + 100 ≤ 601024) (hsl : sl + 1000 ≤ 7293034) (h : f_L_c27 N Ln xs v4 M = some (true, M')) (k : am_V X LY M' (ce + 3) (sl + 18) Q 2644 [some (.ref am_sc), some (.ref 0), some (.ref 208), some (.ref 219), some (.int v4), none, none] []) : am_V X LY M ce sl Q 1756 [some (.ref am_sc), some (.ref 0), some (.ref 208), some (.ref 219), some (.int v4), none, none] [] := by
  unfold f_L_c27 at h
  refine v_aload_n hC dL_law__1756 rfl ?_
  refine v_aload_n hC dL_law__1757 rfl ?_
  refine v_iload hC dL_law__1758 rfl ?_
  refine v_iconst (v := (1 : Int32)) hC dL_law__1760 rfl ?_
  refine v_iadd hC dL_law__1761 ?_
  obtain ⟨g1, h⟩ := grd_some h
  refine v_ssl hC hs (inb_in g1) dL_law__1762 ?_
  refine v_aload_n hC dL_law__1763 rfl ?_
  obtain ⟨r2, M3, q4, h⟩ := bnd_some h
  refine w_callSH hC [.ref 0, .int (xs ((v4 + (1 : Int32))).toNatClampNeg), .ref 219] [] (ok_L_worst hl q4) mh_L_worst aw_1115 rfl (Nat.le_of_ble_eq_true rfl) ⟨by decide, by decide⟩ ⟨by show _ ≤ 601024; omega, by show _ ≤ 7293034; omega⟩ dL_law__1764 ?_
  refine w_istore hC dL_law__1767 (ltk rfl) [some (.ref am_sc), some (.ref 0), some (.ref 208), some (.ref 219), some (.int v4), some (.int r2), none] rfl ?_
  refine v_aload_n hC dL_law__1769 rfl ?_
  refine v_aload_n hC dL_law__1770 rfl ?_
  refine v_iload hC dL_law__1771 rfl ?_
  refine v_iconst (v := (1 : Int32)) hC dL_law__1773 rfl ?_
  refine v_iadd hC dL_law__1774 ?_
  obtain ⟨g5, h⟩ := grd_some h
  refine v_ssl hC hs (inb_in g5) dL_law__1775 ?_
  obtain ⟨r6, M7, q8, h⟩ := bnd_some h
  refine w_callVi hC [.int (xs ((v4 + (1 : Int32))).toNatClampNeg)] [] (ok_X11_worst q8) mv_X11_worst aw_1735 ly_208 rfl (Nat.le_of_ble_eq_true rfl) ⟨by decide, by decide⟩ ⟨by show _ ≤ 601024; omega, by show _ ≤ 7293034; omega⟩ dL_law__1776 ?_
  refine w_istore hC dL_law__1779 (ltk rfl) [some (.ref am_sc), some (.ref 0), some (.ref 208), some (.ref 219), some (.int v4), some (.int r2), some (.int r6)] rfl ?_
  refine v_aload_n hC dL_law__1781 rfl ?_
  obtain ⟨r9, M10, q11, h⟩ := bnd_some h
  refine w_callVi hC [] [] (ok_X11_thrown q11) mv_X11_thrown aw_1221 ly_208 rfl (Nat.le_of_ble_eq_true rfl) ⟨by decide, by decide⟩ ⟨by show _ ≤ 601024; omega, by show _ ≤ 7293034; omega⟩ dL_law__1782 ?_
  refine v_iload hC dL_law__1785 rfl ?_
  refine v_icmp_eq hC 1792 dL_law__1787 rfl (fun c12 => ?_) (fun c12 => ?_)
  · rw [if_pos c12] at h
    refine v_iload hC dL_law__1792 rfl ?_
    refine v_if_ne hC 1809 dL_law__1794 rfl (fun c13 => ?_) (fun c13 => ?_)
    · rw [if_neg c13] at h
      refine v_goto (tg := 2644) hC dL_law__1809 rfl ?_
      refine v_drop [true, true, true, true, true, false, false] [some (.ref am_sc), some (.ref 0), some (.ref 208), some (.ref 219), some (.int v4), none, none] rfl ?_
      cases h
      exact v_widen (k := ce + 3) (n := sl + 18) (by omega) (by omega) k
    · rw [if_pos c13] at h
      refine v_aload_n hC dL_law__1797 rfl ?_
      refine v_iconst (v := (0 : Int32)) hC dL_law__1798 rfl ?_
      obtain ⟨g14, h⟩ := grd_some h
      refine v_lald hC ly_219 (inb_in g14) dL_law__1799 ?_
      refine v_iload hC dL_law__1800 rfl ?_
      refine v_i2l hC dL_law__1802 ?_
      refine v_lcmp hC dL_law__1803 ?_
      refine v_if_eq hC 1809 dL_law__1804 rfl (fun c15 => ?_) (fun c15 => ?_)
      · rw [if_pos c15] at h
        refine v_goto (tg := 2644) hC dL_law__1809 rfl ?_
        refine v_drop [true, true, true, true, true, false, false] [some (.ref am_sc), some (.ref 0), some (.ref 208), some (.ref 219), some (.int v4), none, none] rfl ?_
        cases h
        exact v_widen (k := ce + 3) (n := sl + 18) (by omega) (by omega) k
      · rw [if_neg c15] at h
        cases h
  · rw [if_neg c12] at h
    cases h
def f_L_c28 (N Ln : Nat) (xs : Nat → Int32) (v4 : Int32) (M : Mm) : Option (Bool × Mm) :=
  bnd (f_X10_alike N M) (fun r1 M2 => bnd (f_X11_alike N M2) (fun r4 M5 => (if r1 = r4 then some (true, M5) else some (false, M5))))
set_option maxRecDepth 20000 in
set_option maxHeartbeats 4000000 in
theorem okc_28 {N Ln : Nat} {xs : Nat → Int32} {X : am_X} {l : Launch} (hl : l.stackTraces = false) (hC : am_C X l room_1 cL_law_ RL (some .boolean)) (hs : am_SC X xs Ln) {v4 : Int32} {M M' : Mm} {ce sl : Nat} {Q : State → Prop} (hce : ce + 100 ≤ 601024) (hsl : sl + 1000 ≤ 7293034) (h : f_L_c28 N Ln xs v4 M = some (true, M')) (k : am_V X LY M' (ce + 3) (sl + 18) Q 2644 [some (.ref am_sc), some (.ref 0), some (.ref 208), some (.ref 219), some (.int v4), none, none] []) : am_V X LY M ce sl Q 1812 [some (.ref am_sc), some (.ref 0), some (.ref 208), some (.ref 219), some (.int v4), none, none] [] := by
  unfold f_L_c28 at h
  refine v_aload_n hC dL_law__1812 rfl ?_
  obtain ⟨r1, M2, q3, h⟩ := bnd_some h
  refine w_callVi hC [] [] (ok_X10_alike q3) mv_X10_alike aw_489 ly_0 rfl (Nat.le_of_ble_eq_true rfl) ⟨by decide, by decide⟩ ⟨by show _ ≤ 601024; omega, by show _ ≤ 7293034; omega⟩ dL_law__1813 ?_
  refine v_aload_n hC dL_law__1816 rfl ?_
  obtain ⟨r4, M5, q6, h⟩ := bnd_some h
  refine w_callVi hC [] [.int r1] (ok_X11_alike q6) mv_X11_alike aw_1739 ly_208 rfl (Nat.le_of_ble_eq_true rfl) ⟨by decide, by decide⟩ ⟨by show _ ≤ 601024; omega, by show _ ≤ 7293034; omega⟩ dL_law__1817 ?_
  refine v_icmp_eq hC 2644 dL_law__1820 rfl (fun c7 => ?_) (fun c7 => ?_)
  · rw [if_pos c7] at h
    cases h
    exact v_widen (k := ce + 3) (n := sl + 18) (by omega) (by omega) k
  · rw [if_neg c7] at h
    cases h
def f_L_c29 (N Ln : Nat) (xs : Nat → Int32) (v4 : Int32) (M : Mm) : Option (Bool × Mm) :=
  grd (inb (v4 + (1 : Int32)) Ln) (grd (inb (v4 + (2 : Int32)) Ln) (bnd (f_L_share N (xs ((v4 + (1 : Int32))).toNatClampNeg) (xs ((v4 + (2 : Int32))).toNatClampNeg) M) (fun r3 M4 => grd (inb (v4 + (1 : Int32)) Ln) (grd (inb (v4 + (2 : Int32)) Ln) (bnd (f_X11_share N (xs ((v4 + (1 : Int32))).toNatClampNeg) (xs ((v4 + (2 : Int32))).toNatClampNeg) M4) (fun r8 M9 => bnd (f_X11_thrown N M9) (fun r11 M12 => (if r11 = r3 then (if r3 = (0 : Int32) then grd (inb (0 : Int32) 1) ((if (lg_cmp (M12 219 ((0 : Int32)).toNatClampNeg).toInt64 (r8).toInt64) = (0 : Int32) then some (true, M12) else some (false, M12))) else some (true, M12)) else some (false, M12)))))))))
set_option maxRecDepth 20000 in
set_option maxHeartbeats 4000000 in
theorem okc_29 {N Ln : Nat} {xs : Nat → Int32} {X : am_X} {l : Launch} (hl : l.stackTraces = false) (hC : am_C X l room_1 cL_law_ RL (some .boolean)) (hs : am_SC X xs Ln) {v4 : Int32} {M M' : Mm} {ce sl : Nat} {Q : State → Prop} (hce : ce + 100 ≤ 601024) (hsl : sl + 1000 ≤ 7293034) (h : f_L_c29 N Ln xs v4 M = some (true, M')) (k : am_V X LY M' (ce + 3) (sl + 18) Q 2644 [some (.ref am_sc), some (.ref 0), some (.ref 208), some (.ref 219), some (.int v4), none, none] []) : am_V X LY M ce sl Q 1825 [some (.ref am_sc), some (.ref 0), some (.ref 208), some (.ref 219), some (.int v4), none, none] [] := by
  unfold f_L_c29 at h
  refine v_aload_n hC dL_law__1825 rfl ?_
  refine v_aload_n hC dL_law__1826 rfl ?_
  refine v_iload hC dL_law__1827 rfl ?_
  refine v_iconst (v := (1 : Int32)) hC dL_law__1829 rfl ?_
  refine v_iadd hC dL_law__1830 ?_
  obtain ⟨g1, h⟩ := grd_some h
  refine v_ssl hC hs (inb_in g1) dL_law__1831 ?_
  refine v_aload_n hC dL_law__1832 rfl ?_
  refine v_iload hC dL_law__1833 rfl ?_
  refine v_iconst (v := (2 : Int32)) hC dL_law__1835 rfl ?_
  refine v_iadd hC dL_law__1836 ?_
  obtain ⟨g2, h⟩ := grd_some h
  refine v_ssl hC hs (inb_in g2) dL_law__1837 ?_
  refine v_aload_n hC dL_law__1838 rfl ?_
  obtain ⟨r3, M4, q5, h⟩ := bnd_some h
  refine w_callSH hC [.ref 0, .int (xs ((v4 + (1 : Int32))).toNatClampNeg), .int (xs ((v4 + (2 : Int32))).toNatClampNeg), .ref 219] [] (ok_L_share hl q5) mh_L_share aw_1122 rfl (Nat.le_of_ble_eq_true rfl) ⟨by decide, by decide⟩ ⟨by show _ ≤ 601024; omega, by show _ ≤ 7293034; omega⟩ dL_law__1839 ?_
  refine w_istore hC dL_law__1842 (ltk rfl) [some (.ref am_sc), some (.ref 0), some (.ref 208), some (.ref 219), some (.int v4), some (.int r3), none] rfl ?_
  refine v_aload_n hC dL_law__1844 rfl ?_
  refine v_aload_n hC dL_law__1845 rfl ?_
  refine v_iload hC dL_law__1846 rfl ?_
  refine v_iconst (v := (1 : Int32)) hC dL_law__1848 rfl ?_
  refine v_iadd hC dL_law__1849 ?_
  obtain ⟨g6, h⟩ := grd_some h
  refine v_ssl hC hs (inb_in g6) dL_law__1850 ?_
  refine v_aload_n hC dL_law__1851 rfl ?_
  refine v_iload hC dL_law__1852 rfl ?_
  refine v_iconst (v := (2 : Int32)) hC dL_law__1854 rfl ?_
  refine v_iadd hC dL_law__1855 ?_
  obtain ⟨g7, h⟩ := grd_some h
  refine v_ssl hC hs (inb_in g7) dL_law__1856 ?_
  obtain ⟨r8, M9, q10, h⟩ := bnd_some h
  refine w_callVi hC [.int (xs ((v4 + (1 : Int32))).toNatClampNeg), .int (xs ((v4 + (2 : Int32))).toNatClampNeg)] [] (ok_X11_share q10) mv_X11_share aw_1747 ly_208 rfl (Nat.le_of_ble_eq_true rfl) ⟨by decide, by decide⟩ ⟨by show _ ≤ 601024; omega, by show _ ≤ 7293034; omega⟩ dL_law__1857 ?_
  refine w_istore hC dL_law__1860 (ltk rfl) [some (.ref am_sc), some (.ref 0), some (.ref 208), some (.ref 219), some (.int v4), some (.int r3), some (.int r8)] rfl ?_
  refine v_aload_n hC dL_law__1862 rfl ?_
  obtain ⟨r11, M12, q13, h⟩ := bnd_some h
  refine w_callVi hC [] [] (ok_X11_thrown q13) mv_X11_thrown aw_1221 ly_208 rfl (Nat.le_of_ble_eq_true rfl) ⟨by decide, by decide⟩ ⟨by show _ ≤ 601024; omega, by show _ ≤ 7293034; omega⟩ dL_law__1863 ?_
  refine v_iload hC dL_law__1866 rfl ?_
  refine v_icmp_eq hC 1873 dL_law__1868 rfl (fun c14 => ?_) (fun c14 => ?_)
  · rw [if_pos c14] at h
    refine v_iload hC dL_law__1873 rfl ?_
    refine v_if_ne hC 1890 dL_law__1875 rfl (fun c15 => ?_) (fun c15 => ?_)
    · rw [if_neg c15] at h
      refine v_goto (tg := 2644) hC dL_law__1890 rfl ?_
      refine v_drop [true, true, true, true, true, false, false] [some (.ref am_sc), some (.ref 0), some (.ref 208), some (.ref 219), some (.int v4), none, none] rfl ?_
      cases h
      exact v_widen (k := ce + 3) (n := sl + 18) (by omega) (by omega) k
    · rw [if_pos c15] at h
      refine v_aload_n hC dL_law__1878 rfl ?_
      refine v_iconst (v := (0 : Int32)) hC dL_law__1879 rfl ?_
      obtain ⟨g16, h⟩ := grd_some h
      refine v_lald hC ly_219 (inb_in g16) dL_law__1880 ?_
      refine v_iload hC dL_law__1881 rfl ?_
      refine v_i2l hC dL_law__1883 ?_
      refine v_lcmp hC dL_law__1884 ?_
      refine v_if_eq hC 1890 dL_law__1885 rfl (fun c17 => ?_) (fun c17 => ?_)
      · rw [if_pos c17] at h
        refine v_goto (tg := 2644) hC dL_law__1890 rfl ?_
        refine v_drop [true, true, true, true, true, false, false] [some (.ref am_sc), some (.ref 0), some (.ref 208), some (.ref 219), some (.int v4), none, none] rfl ?_
        cases h
        exact v_widen (k := ce + 3) (n := sl + 18) (by omega) (by omega) k
      · rw [if_neg c17] at h
        cases h
  · rw [if_neg c14] at h
    cases h
def f_L_c30 (N Ln : Nat) (xs : Nat → Int32) (v4 : Int32) (M : Mm) : Option (Bool × Mm) :=
  bnd (f_X10_whole N M) (fun r1 M2 => bnd (f_X11_whole N M2) (fun r4 M5 => (if r1 = r4 then some (true, M5) else some (false, M5))))
set_option maxRecDepth 20000 in
set_option maxHeartbeats 4000000 in
theorem okc_30 {N Ln : Nat} {xs : Nat → Int32} {X : am_X} {l : Launch} (hl : l.stackTraces = false) (hC : am_C X l room_1 cL_law_ RL (some .boolean)) (hs : am_SC X xs Ln) {v4 : Int32} {M M' : Mm} {ce sl : Nat} {Q : State → Prop} (hce : ce + 100 ≤ 601024) (hsl : sl + 1000 ≤ 7293034) (h : f_L_c30 N Ln xs v4 M = some (true, M')) (k : am_V X LY M' (ce + 3) (sl + 18) Q 2644 [some (.ref am_sc), some (.ref 0), some (.ref 208), some (.ref 219), some (.int v4), none, none] []) : am_V X LY M ce sl Q 1893 [some (.ref am_sc), some (.ref 0), some (.ref 208), some (.ref 219), some (.int v4), none, none] [] := by
  unfold f_L_c30 at h
  refine v_aload_n hC dL_law__1893 rfl ?_
  obtain ⟨r1, M2, q3, h⟩ := bnd_some h
  refine w_callVi hC [] [] (ok_X10_whole q3) mv_X10_whole aw_498 ly_0 rfl (Nat.le_of_ble_eq_true rfl) ⟨by decide, by decide⟩ ⟨by show _ ≤ 601024; omega, by show _ ≤ 7293034; omega⟩ dL_law__1894 ?_
  refine v_aload_n hC dL_law__1897 rfl ?_
  obtain ⟨r4, M5, q6, h⟩ := bnd_some h
  refine w_callVi hC [] [.int r1] (ok_X11_whole q6) mv_X11_whole aw_1755 ly_208 rfl (Nat.le_of_ble_eq_true rfl) ⟨by decide, by decide⟩ ⟨by show _ ≤ 601024; omega, by show _ ≤ 7293034; omega⟩ dL_law__1898 ?_
  refine v_icmp_eq hC 2644 dL_law__1901 rfl (fun c7 => ?_) (fun c7 => ?_)
  · rw [if_pos c7] at h
    cases h
    exact v_widen (k := ce + 3) (n := sl + 18) (by omega) (by omega) k
  · rw [if_neg c7] at h
    cases h
def f_L_c31 (N Ln : Nat) (xs : Nat → Int32) (v4 : Int32) (M : Mm) : Option (Bool × Mm) :=
  grd (inb (v4 + (1 : Int32)) Ln) (bnd (f_L_sentence N (xs ((v4 + (1 : Int32))).toNatClampNeg) M) (fun r2 M3 => grd (inb (v4 + (1 : Int32)) Ln) (bnd (f_X11_sentence N (xs ((v4 + (1 : Int32))).toNatClampNeg) M3) (fun r6 M7 => bnd (f_X11_thrown N M7) (fun r9 M10 => (if r9 = r2 then (if r2 = (0 : Int32) then grd (inb (0 : Int32) 1) ((if (lg_cmp (M10 219 ((0 : Int32)).toNatClampNeg).toInt64 (r6).toInt64) = (0 : Int32) then some (true, M10) else some (false, M10))) else some (true, M10)) else some (false, M10)))))))
set_option maxRecDepth 20000 in
set_option maxHeartbeats 4000000 in
theorem okc_31 {N Ln : Nat} {xs : Nat → Int32} {X : am_X} {l : Launch} (hl : l.stackTraces = false) (hC : am_C X l room_1 cL_law_ RL (some .boolean)) (hs : am_SC X xs Ln) {v4 : Int32} {M M' : Mm} {ce sl : Nat} {Q : State → Prop} (hce : ce + 100 ≤ 601024) (hsl : sl + 1000 ≤ 7293034) (h : f_L_c31 N Ln xs v4 M = some (true, M')) (k : am_V X LY M' (ce + 3) (sl + 18) Q 2644 [some (.ref am_sc), some (.ref 0), some (.ref 208), some (.ref 219), some (.int v4), none, none] []) : am_V X LY M ce sl Q 1906 [some (.ref am_sc), some (.ref 0), some (.ref 208), some (.ref 219), some (.int v4), none, none] [] := by
  unfold f_L_c31 at h
  refine v_aload_n hC dL_law__1906 rfl ?_
  refine v_aload_n hC dL_law__1907 rfl ?_
  refine v_iload hC dL_law__1908 rfl ?_
  refine v_iconst (v := (1 : Int32)) hC dL_law__1910 rfl ?_
  refine v_iadd hC dL_law__1911 ?_
  obtain ⟨g1, h⟩ := grd_some h
  refine v_ssl hC hs (inb_in g1) dL_law__1912 ?_
  refine v_aload_n hC dL_law__1913 rfl ?_
  obtain ⟨r2, M3, q4, h⟩ := bnd_some h
  refine w_callSH hC [.ref 0, .int (xs ((v4 + (1 : Int32))).toNatClampNeg), .ref 219] [] (ok_L_sentence hl q4) mh_L_sentence aw_1129 rfl (Nat.le_of_ble_eq_true rfl) ⟨by decide, by decide⟩ ⟨by show _ ≤ 601024; omega, by show _ ≤ 7293034; omega⟩ dL_law__1914 ?_
  refine w_istore hC dL_law__1917 (ltk rfl) [some (.ref am_sc), some (.ref 0), some (.ref 208), some (.ref 219), some (.int v4), some (.int r2), none] rfl ?_
  refine v_aload_n hC dL_law__1919 rfl ?_
  refine v_aload_n hC dL_law__1920 rfl ?_
  refine v_iload hC dL_law__1921 rfl ?_
  refine v_iconst (v := (1 : Int32)) hC dL_law__1923 rfl ?_
  refine v_iadd hC dL_law__1924 ?_
  obtain ⟨g5, h⟩ := grd_some h
  refine v_ssl hC hs (inb_in g5) dL_law__1925 ?_
  obtain ⟨r6, M7, q8, h⟩ := bnd_some h
  refine w_callVi hC [.int (xs ((v4 + (1 : Int32))).toNatClampNeg)] [] (ok_X11_sentence q8) mv_X11_sentence aw_1763 ly_208 rfl (Nat.le_of_ble_eq_true rfl) ⟨by decide, by decide⟩ ⟨by show _ ≤ 601024; omega, by show _ ≤ 7293034; omega⟩ dL_law__1926 ?_
  refine w_istore hC dL_law__1929 (ltk rfl) [some (.ref am_sc), some (.ref 0), some (.ref 208), some (.ref 219), some (.int v4), some (.int r2), some (.int r6)] rfl ?_
  refine v_aload_n hC dL_law__1931 rfl ?_
  obtain ⟨r9, M10, q11, h⟩ := bnd_some h
  refine w_callVi hC [] [] (ok_X11_thrown q11) mv_X11_thrown aw_1221 ly_208 rfl (Nat.le_of_ble_eq_true rfl) ⟨by decide, by decide⟩ ⟨by show _ ≤ 601024; omega, by show _ ≤ 7293034; omega⟩ dL_law__1932 ?_
  refine v_iload hC dL_law__1935 rfl ?_
  refine v_icmp_eq hC 1942 dL_law__1937 rfl (fun c12 => ?_) (fun c12 => ?_)
  · rw [if_pos c12] at h
    refine v_iload hC dL_law__1942 rfl ?_
    refine v_if_ne hC 1959 dL_law__1944 rfl (fun c13 => ?_) (fun c13 => ?_)
    · rw [if_neg c13] at h
      refine v_goto (tg := 2644) hC dL_law__1959 rfl ?_
      refine v_drop [true, true, true, true, true, false, false] [some (.ref am_sc), some (.ref 0), some (.ref 208), some (.ref 219), some (.int v4), none, none] rfl ?_
      cases h
      exact v_widen (k := ce + 3) (n := sl + 18) (by omega) (by omega) k
    · rw [if_pos c13] at h
      refine v_aload_n hC dL_law__1947 rfl ?_
      refine v_iconst (v := (0 : Int32)) hC dL_law__1948 rfl ?_
      obtain ⟨g14, h⟩ := grd_some h
      refine v_lald hC ly_219 (inb_in g14) dL_law__1949 ?_
      refine v_iload hC dL_law__1950 rfl ?_
      refine v_i2l hC dL_law__1952 ?_
      refine v_lcmp hC dL_law__1953 ?_
      refine v_if_eq hC 1959 dL_law__1954 rfl (fun c15 => ?_) (fun c15 => ?_)
      · rw [if_pos c15] at h
        refine v_goto (tg := 2644) hC dL_law__1959 rfl ?_
        refine v_drop [true, true, true, true, true, false, false] [some (.ref am_sc), some (.ref 0), some (.ref 208), some (.ref 219), some (.int v4), none, none] rfl ?_
        cases h
        exact v_widen (k := ce + 3) (n := sl + 18) (by omega) (by omega) k
      · rw [if_neg c15] at h
        cases h
  · rw [if_neg c12] at h
    cases h
def f_L_c32 (N Ln : Nat) (xs : Nat → Int32) (v4 : Int32) (M : Mm) : Option (Bool × Mm) :=
  grd (inb (v4 + (1 : Int32)) Ln) (grd (inb (v4 + (2 : Int32)) Ln) (bnd (f_L_alone N (xs ((v4 + (1 : Int32))).toNatClampNeg) (xs ((v4 + (2 : Int32))).toNatClampNeg) M) (fun r3 M4 => grd (inb (v4 + (1 : Int32)) Ln) (grd (inb (v4 + (2 : Int32)) Ln) (bnd (f_X11_alone N (xs ((v4 + (1 : Int32))).toNatClampNeg) (xs ((v4 + (2 : Int32))).toNatClampNeg) M4) (fun r8 M9 => bnd (f_X11_thrown N M9) (fun r11 M12 => (if r11 = r3 then (if r3 = (0 : Int32) then grd (inb (0 : Int32) 1) ((if (lg_cmp (M12 219 ((0 : Int32)).toNatClampNeg).toInt64 (r8).toInt64) = (0 : Int32) then some (true, M12) else some (false, M12))) else some (true, M12)) else some (false, M12)))))))))
set_option maxRecDepth 20000 in
set_option maxHeartbeats 4000000 in
theorem okc_32 {N Ln : Nat} {xs : Nat → Int32} {X : am_X} {l : Launch} (hl : l.stackTraces = false) (hC : am_C X l room_1 cL_law_ RL (some .boolean)) (hs : am_SC X xs Ln) {v4 : Int32} {M M' : Mm} {ce sl : Nat} {Q : State → Prop} (hce : ce + 100 ≤ 601024) (hsl : sl + 1000 ≤ 7293034) (h : f_L_c32 N Ln xs v4 M = some (true, M')) (k : am_V X LY M' (ce + 3) (sl + 18) Q 2644 [some (.ref am_sc), some (.ref 0), some (.ref 208), some (.ref 219), some (.int v4), none, none] []) : am_V X LY M ce sl Q 1962 [some (.ref am_sc), some (.ref 0), some (.ref 208), some (.ref 219), some (.int v4), none, none] [] := by
  unfold f_L_c32 at h
  refine v_aload_n hC dL_law__1962 rfl ?_
  refine v_aload_n hC dL_law__1963 rfl ?_
  refine v_iload hC dL_law__1964 rfl ?_
  refine v_iconst (v := (1 : Int32)) hC dL_law__1966 rfl ?_
  refine v_iadd hC dL_law__1967 ?_
  obtain ⟨g1, h⟩ := grd_some h
  refine v_ssl hC hs (inb_in g1) dL_law__1968 ?_
  refine v_aload_n hC dL_law__1969 rfl ?_
  refine v_iload hC dL_law__1970 rfl ?_
  refine v_iconst (v := (2 : Int32)) hC dL_law__1972 rfl ?_
  refine v_iadd hC dL_law__1973 ?_
  obtain ⟨g2, h⟩ := grd_some h
  refine v_ssl hC hs (inb_in g2) dL_law__1974 ?_
  refine v_aload_n hC dL_law__1975 rfl ?_
  obtain ⟨r3, M4, q5, h⟩ := bnd_some h
  refine w_callSH hC [.ref 0, .int (xs ((v4 + (1 : Int32))).toNatClampNeg), .int (xs ((v4 + (2 : Int32))).toNatClampNeg), .ref 219] [] (ok_L_alone hl q5) mh_L_alone aw_1136 rfl (Nat.le_of_ble_eq_true rfl) ⟨by decide, by decide⟩ ⟨by show _ ≤ 601024; omega, by show _ ≤ 7293034; omega⟩ dL_law__1976 ?_
  refine w_istore hC dL_law__1979 (ltk rfl) [some (.ref am_sc), some (.ref 0), some (.ref 208), some (.ref 219), some (.int v4), some (.int r3), none] rfl ?_
  refine v_aload_n hC dL_law__1981 rfl ?_
  refine v_aload_n hC dL_law__1982 rfl ?_
  refine v_iload hC dL_law__1983 rfl ?_
  refine v_iconst (v := (1 : Int32)) hC dL_law__1985 rfl ?_
  refine v_iadd hC dL_law__1986 ?_
  obtain ⟨g6, h⟩ := grd_some h
  refine v_ssl hC hs (inb_in g6) dL_law__1987 ?_
  refine v_aload_n hC dL_law__1988 rfl ?_
  refine v_iload hC dL_law__1989 rfl ?_
  refine v_iconst (v := (2 : Int32)) hC dL_law__1991 rfl ?_
  refine v_iadd hC dL_law__1992 ?_
  obtain ⟨g7, h⟩ := grd_some h
  refine v_ssl hC hs (inb_in g7) dL_law__1993 ?_
  obtain ⟨r8, M9, q10, h⟩ := bnd_some h
  refine w_callVi hC [.int (xs ((v4 + (1 : Int32))).toNatClampNeg), .int (xs ((v4 + (2 : Int32))).toNatClampNeg)] [] (ok_X11_alone q10) mv_X11_alone aw_1775 ly_208 rfl (Nat.le_of_ble_eq_true rfl) ⟨by decide, by decide⟩ ⟨by show _ ≤ 601024; omega, by show _ ≤ 7293034; omega⟩ dL_law__1994 ?_
  refine w_istore hC dL_law__1997 (ltk rfl) [some (.ref am_sc), some (.ref 0), some (.ref 208), some (.ref 219), some (.int v4), some (.int r3), some (.int r8)] rfl ?_
  refine v_aload_n hC dL_law__1999 rfl ?_
  obtain ⟨r11, M12, q13, h⟩ := bnd_some h
  refine w_callVi hC [] [] (ok_X11_thrown q13) mv_X11_thrown aw_1221 ly_208 rfl (Nat.le_of_ble_eq_true rfl) ⟨by decide, by decide⟩ ⟨by show _ ≤ 601024; omega, by show _ ≤ 7293034; omega⟩ dL_law__2000 ?_
  refine v_iload hC dL_law__2003 rfl ?_
  refine v_icmp_eq hC 2010 dL_law__2005 rfl (fun c14 => ?_) (fun c14 => ?_)
  · rw [if_pos c14] at h
    refine v_iload hC dL_law__2010 rfl ?_
    refine v_if_ne hC 2027 dL_law__2012 rfl (fun c15 => ?_) (fun c15 => ?_)
    · rw [if_neg c15] at h
      refine v_goto (tg := 2644) hC dL_law__2027 rfl ?_
      refine v_drop [true, true, true, true, true, false, false] [some (.ref am_sc), some (.ref 0), some (.ref 208), some (.ref 219), some (.int v4), none, none] rfl ?_
      cases h
      exact v_widen (k := ce + 3) (n := sl + 18) (by omega) (by omega) k
    · rw [if_pos c15] at h
      refine v_aload_n hC dL_law__2015 rfl ?_
      refine v_iconst (v := (0 : Int32)) hC dL_law__2016 rfl ?_
      obtain ⟨g16, h⟩ := grd_some h
      refine v_lald hC ly_219 (inb_in g16) dL_law__2017 ?_
      refine v_iload hC dL_law__2018 rfl ?_
      refine v_i2l hC dL_law__2020 ?_
      refine v_lcmp hC dL_law__2021 ?_
      refine v_if_eq hC 2027 dL_law__2022 rfl (fun c17 => ?_) (fun c17 => ?_)
      · rw [if_pos c17] at h
        refine v_goto (tg := 2644) hC dL_law__2027 rfl ?_
        refine v_drop [true, true, true, true, true, false, false] [some (.ref am_sc), some (.ref 0), some (.ref 208), some (.ref 219), some (.int v4), none, none] rfl ?_
        cases h
        exact v_widen (k := ce + 3) (n := sl + 18) (by omega) (by omega) k
      · rw [if_neg c17] at h
        cases h
  · rw [if_neg c14] at h
    cases h
def f_L_c33 (N Ln : Nat) (xs : Nat → Int32) (v4 : Int32) (M : Mm) : Option (Bool × Mm) :=
  bnd (f_X10_fair N M) (fun r1 M2 => bnd (f_X11_fair N M2) (fun r4 M5 => (if r1 = r4 then some (true, M5) else some (false, M5))))
set_option maxRecDepth 20000 in
set_option maxHeartbeats 4000000 in
theorem okc_33 {N Ln : Nat} {xs : Nat → Int32} {X : am_X} {l : Launch} (hl : l.stackTraces = false) (hC : am_C X l room_1 cL_law_ RL (some .boolean)) (hs : am_SC X xs Ln) {v4 : Int32} {M M' : Mm} {ce sl : Nat} {Q : State → Prop} (hce : ce + 100 ≤ 601024) (hsl : sl + 1000 ≤ 7293034) (h : f_L_c33 N Ln xs v4 M = some (true, M')) (k : am_V X LY M' (ce + 3) (sl + 18) Q 2644 [some (.ref am_sc), some (.ref 0), some (.ref 208), some (.ref 219), some (.int v4), none, none] []) : am_V X LY M ce sl Q 2030 [some (.ref am_sc), some (.ref 0), some (.ref 208), some (.ref 219), some (.int v4), none, none] [] := by
  unfold f_L_c33 at h
  refine v_aload_n hC dL_law__2030 rfl ?_
  obtain ⟨r1, M2, q3, h⟩ := bnd_some h
  refine w_callVi hC [] [] (ok_X10_fair q3) mv_X10_fair aw_510 ly_0 rfl (Nat.le_of_ble_eq_true rfl) ⟨by decide, by decide⟩ ⟨by show _ ≤ 601024; omega, by show _ ≤ 7293034; omega⟩ dL_law__2031 ?_
  refine v_aload_n hC dL_law__2034 rfl ?_
  obtain ⟨r4, M5, q6, h⟩ := bnd_some h
  refine w_callVi hC [] [.int r1] (ok_X11_fair q6) mv_X11_fair aw_1771 ly_208 rfl (Nat.le_of_ble_eq_true rfl) ⟨by decide, by decide⟩ ⟨by show _ ≤ 601024; omega, by show _ ≤ 7293034; omega⟩ dL_law__2035 ?_
  refine v_icmp_eq hC 2644 dL_law__2038 rfl (fun c7 => ?_) (fun c7 => ?_)
  · rw [if_pos c7] at h
    cases h
    exact v_widen (k := ce + 3) (n := sl + 18) (by omega) (by omega) k
  · rw [if_neg c7] at h
    cases h
def f_L_c34 (N Ln : Nat) (xs : Nat → Int32) (v4 : Int32) (M : Mm) : Option (Bool × Mm) :=
  grd (inb (v4 + (1 : Int32)) Ln) (bnd (f_L_game N (xs ((v4 + (1 : Int32))).toNatClampNeg) M) (fun r2 M3 => grd (inb (v4 + (1 : Int32)) Ln) (bnd (f_X11_game N (xs ((v4 + (1 : Int32))).toNatClampNeg) M3) (fun r6 M7 => bnd (f_X11_thrown N M7) (fun r9 M10 => (if r9 = r2 then (if r2 = (0 : Int32) then grd (inb (0 : Int32) 1) ((if (lg_cmp (M10 219 ((0 : Int32)).toNatClampNeg).toInt64 (r6).toInt64) = (0 : Int32) then some (true, M10) else some (false, M10))) else some (true, M10)) else some (false, M10)))))))
set_option maxRecDepth 20000 in
set_option maxHeartbeats 4000000 in
theorem okc_34 {N Ln : Nat} {xs : Nat → Int32} {X : am_X} {l : Launch} (hl : l.stackTraces = false) (hC : am_C X l room_1 cL_law_ RL (some .boolean)) (hs : am_SC X xs Ln) {v4 : Int32} {M M' : Mm} {ce sl : Nat} {Q : State → Prop} (hce : ce + 100 ≤ 601024) (hsl : sl + 1000 ≤ 7293034) (h : f_L_c34 N Ln xs v4 M = some (true, M')) (k : am_V X LY M' (ce + 3) (sl + 18) Q 2644 [some (.ref am_sc), some (.ref 0), some (.ref 208), some (.ref 219), some (.int v4), none, none] []) : am_V X LY M ce sl Q 2043 [some (.ref am_sc), some (.ref 0), some (.ref 208), some (.ref 219), some (.int v4), none, none] [] := by
  unfold f_L_c34 at h
  refine v_aload_n hC dL_law__2043 rfl ?_
  refine v_aload_n hC dL_law__2044 rfl ?_
  refine v_iload hC dL_law__2045 rfl ?_
  refine v_iconst (v := (1 : Int32)) hC dL_law__2047 rfl ?_
  refine v_iadd hC dL_law__2048 ?_
  obtain ⟨g1, h⟩ := grd_some h
  refine v_ssl hC hs (inb_in g1) dL_law__2049 ?_
  refine v_aload_n hC dL_law__2050 rfl ?_
  obtain ⟨r2, M3, q4, h⟩ := bnd_some h
  refine w_callSH hC [.ref 0, .int (xs ((v4 + (1 : Int32))).toNatClampNeg), .ref 219] [] (ok_L_game hl q4) mh_L_game aw_1143 rfl (Nat.le_of_ble_eq_true rfl) ⟨by decide, by decide⟩ ⟨by show _ ≤ 601024; omega, by show _ ≤ 7293034; omega⟩ dL_law__2051 ?_
  refine w_istore hC dL_law__2054 (ltk rfl) [some (.ref am_sc), some (.ref 0), some (.ref 208), some (.ref 219), some (.int v4), some (.int r2), none] rfl ?_
  refine v_aload_n hC dL_law__2056 rfl ?_
  refine v_aload_n hC dL_law__2057 rfl ?_
  refine v_iload hC dL_law__2058 rfl ?_
  refine v_iconst (v := (1 : Int32)) hC dL_law__2060 rfl ?_
  refine v_iadd hC dL_law__2061 ?_
  obtain ⟨g5, h⟩ := grd_some h
  refine v_ssl hC hs (inb_in g5) dL_law__2062 ?_
  obtain ⟨r6, M7, q8, h⟩ := bnd_some h
  refine w_callVi hC [.int (xs ((v4 + (1 : Int32))).toNatClampNeg)] [] (ok_X11_game q8) mv_X11_game aw_1779 ly_208 rfl (Nat.le_of_ble_eq_true rfl) ⟨by decide, by decide⟩ ⟨by show _ ≤ 601024; omega, by show _ ≤ 7293034; omega⟩ dL_law__2063 ?_
  refine w_istore hC dL_law__2066 (ltk rfl) [some (.ref am_sc), some (.ref 0), some (.ref 208), some (.ref 219), some (.int v4), some (.int r2), some (.int r6)] rfl ?_
  refine v_aload_n hC dL_law__2068 rfl ?_
  obtain ⟨r9, M10, q11, h⟩ := bnd_some h
  refine w_callVi hC [] [] (ok_X11_thrown q11) mv_X11_thrown aw_1221 ly_208 rfl (Nat.le_of_ble_eq_true rfl) ⟨by decide, by decide⟩ ⟨by show _ ≤ 601024; omega, by show _ ≤ 7293034; omega⟩ dL_law__2069 ?_
  refine v_iload hC dL_law__2072 rfl ?_
  refine v_icmp_eq hC 2079 dL_law__2074 rfl (fun c12 => ?_) (fun c12 => ?_)
  · rw [if_pos c12] at h
    refine v_iload hC dL_law__2079 rfl ?_
    refine v_if_ne hC 2096 dL_law__2081 rfl (fun c13 => ?_) (fun c13 => ?_)
    · rw [if_neg c13] at h
      refine v_goto (tg := 2644) hC dL_law__2096 rfl ?_
      refine v_drop [true, true, true, true, true, false, false] [some (.ref am_sc), some (.ref 0), some (.ref 208), some (.ref 219), some (.int v4), none, none] rfl ?_
      cases h
      exact v_widen (k := ce + 3) (n := sl + 18) (by omega) (by omega) k
    · rw [if_pos c13] at h
      refine v_aload_n hC dL_law__2084 rfl ?_
      refine v_iconst (v := (0 : Int32)) hC dL_law__2085 rfl ?_
      obtain ⟨g14, h⟩ := grd_some h
      refine v_lald hC ly_219 (inb_in g14) dL_law__2086 ?_
      refine v_iload hC dL_law__2087 rfl ?_
      refine v_i2l hC dL_law__2089 ?_
      refine v_lcmp hC dL_law__2090 ?_
      refine v_if_eq hC 2096 dL_law__2091 rfl (fun c15 => ?_) (fun c15 => ?_)
      · rw [if_pos c15] at h
        refine v_goto (tg := 2644) hC dL_law__2096 rfl ?_
        refine v_drop [true, true, true, true, true, false, false] [some (.ref am_sc), some (.ref 0), some (.ref 208), some (.ref 219), some (.int v4), none, none] rfl ?_
        cases h
        exact v_widen (k := ce + 3) (n := sl + 18) (by omega) (by omega) k
      · rw [if_neg c15] at h
        cases h
  · rw [if_neg c12] at h
    cases h
def f_L_c35 (N Ln : Nat) (xs : Nat → Int32) (v4 : Int32) (M : Mm) : Option (Bool × Mm) :=
  bnd (f_X10_crowd N M) (fun r1 M2 => bnd (f_X11_crowd N M2) (fun r4 M5 => (if r1 = r4 then some (true, M5) else some (false, M5))))
set_option maxRecDepth 20000 in
set_option maxHeartbeats 4000000 in
theorem okc_35 {N Ln : Nat} {xs : Nat → Int32} {X : am_X} {l : Launch} (hl : l.stackTraces = false) (hC : am_C X l room_1 cL_law_ RL (some .boolean)) (hs : am_SC X xs Ln) {v4 : Int32} {M M' : Mm} {ce sl : Nat} {Q : State → Prop} (hce : ce + 100 ≤ 601024) (hsl : sl + 1000 ≤ 7293034) (h : f_L_c35 N Ln xs v4 M = some (true, M')) (k : am_V X LY M' (ce + 3) (sl + 18) Q 2644 [some (.ref am_sc), some (.ref 0), some (.ref 208), some (.ref 219), some (.int v4), none, none] []) : am_V X LY M ce sl Q 2099 [some (.ref am_sc), some (.ref 0), some (.ref 208), some (.ref 219), some (.int v4), none, none] [] := by
  unfold f_L_c35 at h
  refine v_aload_n hC dL_law__2099 rfl ?_
  obtain ⟨r1, M2, q3, h⟩ := bnd_some h
  refine w_callVi hC [] [] (ok_X10_crowd q3) mv_X10_crowd aw_518 ly_0 rfl (Nat.le_of_ble_eq_true rfl) ⟨by decide, by decide⟩ ⟨by show _ ≤ 601024; omega, by show _ ≤ 7293034; omega⟩ dL_law__2100 ?_
  refine v_aload_n hC dL_law__2103 rfl ?_
  obtain ⟨r4, M5, q6, h⟩ := bnd_some h
  refine w_callVi hC [] [.int r1] (ok_X11_crowd q6) mv_X11_crowd aw_1795 ly_208 rfl (Nat.le_of_ble_eq_true rfl) ⟨by decide, by decide⟩ ⟨by show _ ≤ 601024; omega, by show _ ≤ 7293034; omega⟩ dL_law__2104 ?_
  refine v_icmp_eq hC 2644 dL_law__2107 rfl (fun c7 => ?_) (fun c7 => ?_)
  · rw [if_pos c7] at h
    cases h
    exact v_widen (k := ce + 3) (n := sl + 18) (by omega) (by omega) k
  · rw [if_neg c7] at h
    cases h
def f_L_c36 (N Ln : Nat) (xs : Nat → Int32) (v4 : Int32) (M : Mm) : Option (Bool × Mm) :=
  bnd (f_X10_gaps N M) (fun r1 M2 => bnd (f_X11_gaps N M2) (fun r4 M5 => (if r1 = r4 then some (true, M5) else some (false, M5))))
set_option maxRecDepth 20000 in
set_option maxHeartbeats 4000000 in
theorem okc_36 {N Ln : Nat} {xs : Nat → Int32} {X : am_X} {l : Launch} (hl : l.stackTraces = false) (hC : am_C X l room_1 cL_law_ RL (some .boolean)) (hs : am_SC X xs Ln) {v4 : Int32} {M M' : Mm} {ce sl : Nat} {Q : State → Prop} (hce : ce + 100 ≤ 601024) (hsl : sl + 1000 ≤ 7293034) (h : f_L_c36 N Ln xs v4 M = some (true, M')) (k : am_V X LY M' (ce + 3) (sl + 18) Q 2644 [some (.ref am_sc), some (.ref 0), some (.ref 208), some (.ref 219), some (.int v4), none, none] []) : am_V X LY M ce sl Q 2112 [some (.ref am_sc), some (.ref 0), some (.ref 208), some (.ref 219), some (.int v4), none, none] [] := by
  unfold f_L_c36 at h
  refine v_aload_n hC dL_law__2112 rfl ?_
  obtain ⟨r1, M2, q3, h⟩ := bnd_some h
  refine w_callVi hC [] [] (ok_X10_gaps q3) mv_X10_gaps aw_532 ly_0 rfl (Nat.le_of_ble_eq_true rfl) ⟨by decide, by decide⟩ ⟨by show _ ≤ 601024; omega, by show _ ≤ 7293034; omega⟩ dL_law__2113 ?_
  refine v_aload_n hC dL_law__2116 rfl ?_
  obtain ⟨r4, M5, q6, h⟩ := bnd_some h
  refine w_callVi hC [] [.int r1] (ok_X11_gaps q6) mv_X11_gaps aw_1799 ly_208 rfl (Nat.le_of_ble_eq_true rfl) ⟨by decide, by decide⟩ ⟨by show _ ≤ 601024; omega, by show _ ≤ 7293034; omega⟩ dL_law__2117 ?_
  refine v_icmp_eq hC 2644 dL_law__2120 rfl (fun c7 => ?_) (fun c7 => ?_)
  · rw [if_pos c7] at h
    cases h
    exact v_widen (k := ce + 3) (n := sl + 18) (by omega) (by omega) k
  · rw [if_neg c7] at h
    cases h
def f_L_c37 (N Ln : Nat) (xs : Nat → Int32) (v4 : Int32) (M : Mm) : Option (Bool × Mm) :=
  grd (inb (v4 + (1 : Int32)) Ln) (bnd (f_L_meets N (xs ((v4 + (1 : Int32))).toNatClampNeg) M) (fun r2 M3 => grd (inb (v4 + (1 : Int32)) Ln) (bnd (f_X11_meets N (xs ((v4 + (1 : Int32))).toNatClampNeg) M3) (fun r6 M7 => bnd (f_X11_thrown N M7) (fun r9 M10 => (if r9 = r2 then (if r2 = (0 : Int32) then grd (inb (0 : Int32) 1) ((if (lg_cmp (M10 219 ((0 : Int32)).toNatClampNeg).toInt64 (r6).toInt64) = (0 : Int32) then some (true, M10) else some (false, M10))) else some (true, M10)) else some (false, M10)))))))
set_option maxRecDepth 20000 in
set_option maxHeartbeats 4000000 in
theorem okc_37 {N Ln : Nat} {xs : Nat → Int32} {X : am_X} {l : Launch} (hl : l.stackTraces = false) (hC : am_C X l room_1 cL_law_ RL (some .boolean)) (hs : am_SC X xs Ln) {v4 : Int32} {M M' : Mm} {ce sl : Nat} {Q : State → Prop} (hce : ce + 100 ≤ 601024) (hsl : sl + 1000 ≤ 7293034) (h : f_L_c37 N Ln xs v4 M = some (true, M')) (k : am_V X LY M' (ce + 3) (sl + 18) Q 2644 [some (.ref am_sc), some (.ref 0), some (.ref 208), some (.ref 219), some (.int v4), none, none] []) : am_V X LY M ce sl Q 2125 [some (.ref am_sc), some (.ref 0), some (.ref 208), some (.ref 219), some (.int v4), none, none] [] := by
  unfold f_L_c37 at h
  refine v_aload_n hC dL_law__2125 rfl ?_
  refine v_aload_n hC dL_law__2126 rfl ?_
  refine v_iload hC dL_law__2127 rfl ?_
  refine v_iconst (v := (1 : Int32)) hC dL_law__2129 rfl ?_
  refine v_iadd hC dL_law__2130 ?_
  obtain ⟨g1, h⟩ := grd_some h
  refine v_ssl hC hs (inb_in g1) dL_law__2131 ?_
  refine v_aload_n hC dL_law__2132 rfl ?_
  obtain ⟨r2, M3, q4, h⟩ := bnd_some h
  refine w_callSH hC [.ref 0, .int (xs ((v4 + (1 : Int32))).toNatClampNeg), .ref 219] [] (ok_L_meets hl q4) mh_L_meets aw_1162 rfl (Nat.le_of_ble_eq_true rfl) ⟨by decide, by decide⟩ ⟨by show _ ≤ 601024; omega, by show _ ≤ 7293034; omega⟩ dL_law__2133 ?_
  refine w_istore hC dL_law__2136 (ltk rfl) [some (.ref am_sc), some (.ref 0), some (.ref 208), some (.ref 219), some (.int v4), some (.int r2), none] rfl ?_
  refine v_aload_n hC dL_law__2138 rfl ?_
  refine v_aload_n hC dL_law__2139 rfl ?_
  refine v_iload hC dL_law__2140 rfl ?_
  refine v_iconst (v := (1 : Int32)) hC dL_law__2142 rfl ?_
  refine v_iadd hC dL_law__2143 ?_
  obtain ⟨g5, h⟩ := grd_some h
  refine v_ssl hC hs (inb_in g5) dL_law__2144 ?_
  obtain ⟨r6, M7, q8, h⟩ := bnd_some h
  refine w_callVi hC [.int (xs ((v4 + (1 : Int32))).toNatClampNeg)] [] (ok_X11_meets q8) mv_X11_meets aw_1803 ly_208 rfl (Nat.le_of_ble_eq_true rfl) ⟨by decide, by decide⟩ ⟨by show _ ≤ 601024; omega, by show _ ≤ 7293034; omega⟩ dL_law__2145 ?_
  refine w_istore hC dL_law__2148 (ltk rfl) [some (.ref am_sc), some (.ref 0), some (.ref 208), some (.ref 219), some (.int v4), some (.int r2), some (.int r6)] rfl ?_
  refine v_aload_n hC dL_law__2150 rfl ?_
  obtain ⟨r9, M10, q11, h⟩ := bnd_some h
  refine w_callVi hC [] [] (ok_X11_thrown q11) mv_X11_thrown aw_1221 ly_208 rfl (Nat.le_of_ble_eq_true rfl) ⟨by decide, by decide⟩ ⟨by show _ ≤ 601024; omega, by show _ ≤ 7293034; omega⟩ dL_law__2151 ?_
  refine v_iload hC dL_law__2154 rfl ?_
  refine v_icmp_eq hC 2161 dL_law__2156 rfl (fun c12 => ?_) (fun c12 => ?_)
  · rw [if_pos c12] at h
    refine v_iload hC dL_law__2161 rfl ?_
    refine v_if_ne hC 2178 dL_law__2163 rfl (fun c13 => ?_) (fun c13 => ?_)
    · rw [if_neg c13] at h
      refine v_goto (tg := 2644) hC dL_law__2178 rfl ?_
      refine v_drop [true, true, true, true, true, false, false] [some (.ref am_sc), some (.ref 0), some (.ref 208), some (.ref 219), some (.int v4), none, none] rfl ?_
      cases h
      exact v_widen (k := ce + 3) (n := sl + 18) (by omega) (by omega) k
    · rw [if_pos c13] at h
      refine v_aload_n hC dL_law__2166 rfl ?_
      refine v_iconst (v := (0 : Int32)) hC dL_law__2167 rfl ?_
      obtain ⟨g14, h⟩ := grd_some h
      refine v_lald hC ly_219 (inb_in g14) dL_law__2168 ?_
      refine v_iload hC dL_law__2169 rfl ?_
      refine v_i2l hC dL_law__2171 ?_
      refine v_lcmp hC dL_law__2172 ?_
      refine v_if_eq hC 2178 dL_law__2173 rfl (fun c15 => ?_) (fun c15 => ?_)
      · rw [if_pos c15] at h
        refine v_goto (tg := 2644) hC dL_law__2178 rfl ?_
        refine v_drop [true, true, true, true, true, false, false] [some (.ref am_sc), some (.ref 0), some (.ref 208), some (.ref 219), some (.int v4), none, none] rfl ?_
        cases h
        exact v_widen (k := ce + 3) (n := sl + 18) (by omega) (by omega) k
      · rw [if_neg c15] at h
        cases h
  · rw [if_neg c12] at h
    cases h
def f_L_c38 (N Ln : Nat) (xs : Nat → Int32) (v4 : Int32) (M : Mm) : Option (Bool × Mm) :=
  grd (inb (v4 + (1 : Int32)) Ln) (bnd (f_L_least N (xs ((v4 + (1 : Int32))).toNatClampNeg) M) (fun r2 M3 => grd (inb (v4 + (1 : Int32)) Ln) (bnd (f_X11_least N (xs ((v4 + (1 : Int32))).toNatClampNeg) M3) (fun r6 M7 => bnd (f_X11_thrown N M7) (fun r9 M10 => (if r9 = r2 then (if r2 = (0 : Int32) then grd (inb (0 : Int32) 1) ((if (lg_cmp (M10 219 ((0 : Int32)).toNatClampNeg).toInt64 (r6).toInt64) = (0 : Int32) then some (true, M10) else some (false, M10))) else some (true, M10)) else some (false, M10)))))))
set_option maxRecDepth 20000 in
set_option maxHeartbeats 4000000 in
theorem okc_38 {N Ln : Nat} {xs : Nat → Int32} {X : am_X} {l : Launch} (hl : l.stackTraces = false) (hC : am_C X l room_1 cL_law_ RL (some .boolean)) (hs : am_SC X xs Ln) {v4 : Int32} {M M' : Mm} {ce sl : Nat} {Q : State → Prop} (hce : ce + 100 ≤ 601024) (hsl : sl + 1000 ≤ 7293034) (h : f_L_c38 N Ln xs v4 M = some (true, M')) (k : am_V X LY M' (ce + 3) (sl + 18) Q 2644 [some (.ref am_sc), some (.ref 0), some (.ref 208), some (.ref 219), some (.int v4), none, none] []) : am_V X LY M ce sl Q 2181 [some (.ref am_sc), some (.ref 0), some (.ref 208), some (.ref 219), some (.int v4), none, none] [] := by
  unfold f_L_c38 at h
  refine v_aload_n hC dL_law__2181 rfl ?_
  refine v_aload_n hC dL_law__2182 rfl ?_
  refine v_iload hC dL_law__2183 rfl ?_
  refine v_iconst (v := (1 : Int32)) hC dL_law__2185 rfl ?_
  refine v_iadd hC dL_law__2186 ?_
  obtain ⟨g1, h⟩ := grd_some h
  refine v_ssl hC hs (inb_in g1) dL_law__2187 ?_
  refine v_aload_n hC dL_law__2188 rfl ?_
  obtain ⟨r2, M3, q4, h⟩ := bnd_some h
  refine w_callSH hC [.ref 0, .int (xs ((v4 + (1 : Int32))).toNatClampNeg), .ref 219] [] (ok_L_least hl q4) mh_L_least aw_1169 rfl (Nat.le_of_ble_eq_true rfl) ⟨by decide, by decide⟩ ⟨by show _ ≤ 601024; omega, by show _ ≤ 7293034; omega⟩ dL_law__2189 ?_
  refine w_istore hC dL_law__2192 (ltk rfl) [some (.ref am_sc), some (.ref 0), some (.ref 208), some (.ref 219), some (.int v4), some (.int r2), none] rfl ?_
  refine v_aload_n hC dL_law__2194 rfl ?_
  refine v_aload_n hC dL_law__2195 rfl ?_
  refine v_iload hC dL_law__2196 rfl ?_
  refine v_iconst (v := (1 : Int32)) hC dL_law__2198 rfl ?_
  refine v_iadd hC dL_law__2199 ?_
  obtain ⟨g5, h⟩ := grd_some h
  refine v_ssl hC hs (inb_in g5) dL_law__2200 ?_
  obtain ⟨r6, M7, q8, h⟩ := bnd_some h
  refine w_callVi hC [.int (xs ((v4 + (1 : Int32))).toNatClampNeg)] [] (ok_X11_least q8) mv_X11_least aw_1690 ly_208 rfl (Nat.le_of_ble_eq_true rfl) ⟨by decide, by decide⟩ ⟨by show _ ≤ 601024; omega, by show _ ≤ 7293034; omega⟩ dL_law__2201 ?_
  refine w_istore hC dL_law__2204 (ltk rfl) [some (.ref am_sc), some (.ref 0), some (.ref 208), some (.ref 219), some (.int v4), some (.int r2), some (.int r6)] rfl ?_
  refine v_aload_n hC dL_law__2206 rfl ?_
  obtain ⟨r9, M10, q11, h⟩ := bnd_some h
  refine w_callVi hC [] [] (ok_X11_thrown q11) mv_X11_thrown aw_1221 ly_208 rfl (Nat.le_of_ble_eq_true rfl) ⟨by decide, by decide⟩ ⟨by show _ ≤ 601024; omega, by show _ ≤ 7293034; omega⟩ dL_law__2207 ?_
  refine v_iload hC dL_law__2210 rfl ?_
  refine v_icmp_eq hC 2217 dL_law__2212 rfl (fun c12 => ?_) (fun c12 => ?_)
  · rw [if_pos c12] at h
    refine v_iload hC dL_law__2217 rfl ?_
    refine v_if_ne hC 2234 dL_law__2219 rfl (fun c13 => ?_) (fun c13 => ?_)
    · rw [if_neg c13] at h
      refine v_goto (tg := 2644) hC dL_law__2234 rfl ?_
      refine v_drop [true, true, true, true, true, false, false] [some (.ref am_sc), some (.ref 0), some (.ref 208), some (.ref 219), some (.int v4), none, none] rfl ?_
      cases h
      exact v_widen (k := ce + 3) (n := sl + 18) (by omega) (by omega) k
    · rw [if_pos c13] at h
      refine v_aload_n hC dL_law__2222 rfl ?_
      refine v_iconst (v := (0 : Int32)) hC dL_law__2223 rfl ?_
      obtain ⟨g14, h⟩ := grd_some h
      refine v_lald hC ly_219 (inb_in g14) dL_law__2224 ?_
      refine v_iload hC dL_law__2225 rfl ?_
      refine v_i2l hC dL_law__2227 ?_
      refine v_lcmp hC dL_law__2228 ?_
      refine v_if_eq hC 2234 dL_law__2229 rfl (fun c15 => ?_) (fun c15 => ?_)
      · rw [if_pos c15] at h
        refine v_goto (tg := 2644) hC dL_law__2234 rfl ?_
        refine v_drop [true, true, true, true, true, false, false] [some (.ref am_sc), some (.ref 0), some (.ref 208), some (.ref 219), some (.int v4), none, none] rfl ?_
        cases h
        exact v_widen (k := ce + 3) (n := sl + 18) (by omega) (by omega) k
      · rw [if_neg c15] at h
        cases h
  · rw [if_neg c12] at h
    cases h
def f_L_c39 (N Ln : Nat) (xs : Nat → Int32) (v4 : Int32) (M : Mm) : Option (Bool × Mm) :=
  grd (inb (v4 + (1 : Int32)) Ln) (grd (inb (v4 + (2 : Int32)) Ln) ((if (xs ((v4 + (2 : Int32))).toNatClampNeg) = (0 : Int32) then bnd (f_L_trial N (xs ((v4 + (1 : Int32))).toNatClampNeg) (0 : Int32) M) (fun r4 M5 => grd (inb (v4 + (1 : Int32)) Ln) (grd (inb (v4 + (2 : Int32)) Ln) ((if (xs ((v4 + (2 : Int32))).toNatClampNeg) = (0 : Int32) then bnd (f_X11_trial N (xs ((v4 + (1 : Int32))).toNatClampNeg) (0 : Int32) M5) (fun r10 M11 => bnd (f_X11_thrown N M11) (fun r13 M14 => (if r13 = r4 then (if r4 = (0 : Int32) then grd (inb (0 : Int32) 1) ((if (lg_cmp (M14 219 ((0 : Int32)).toNatClampNeg).toInt64 (r10).toInt64) = (0 : Int32) then some (true, M14) else some (false, M14))) else some (true, M14)) else some (false, M14)))) else bnd (f_X11_trial N (xs ((v4 + (1 : Int32))).toNatClampNeg) (1 : Int32) M5) (fun r20 M21 => bnd (f_X11_thrown N M21) (fun r23 M24 => (if r23 = r4 then (if r4 = (0 : Int32) then grd (inb (0 : Int32) 1) ((if (lg_cmp (M24 219 ((0 : Int32)).toNatClampNeg).toInt64 (r20).toInt64) = (0 : Int32) then some (true, M24) else some (false, M24))) else some (true, M24)) else some (false, M24)))))))) else bnd (f_L_trial N (xs ((v4 + (1 : Int32))).toNatClampNeg) (1 : Int32) M) (fun r30 M31 => grd (inb (v4 + (1 : Int32)) Ln) (grd (inb (v4 + (2 : Int32)) Ln) ((if (xs ((v4 + (2 : Int32))).toNatClampNeg) = (0 : Int32) then bnd (f_X11_trial N (xs ((v4 + (1 : Int32))).toNatClampNeg) (0 : Int32) M31) (fun r36 M37 => bnd (f_X11_thrown N M37) (fun r39 M40 => (if r39 = r30 then (if r30 = (0 : Int32) then grd (inb (0 : Int32) 1) ((if (lg_cmp (M40 219 ((0 : Int32)).toNatClampNeg).toInt64 (r36).toInt64) = (0 : Int32) then some (true, M40) else some (false, M40))) else some (true, M40)) else some (false, M40)))) else bnd (f_X11_trial N (xs ((v4 + (1 : Int32))).toNatClampNeg) (1 : Int32) M31) (fun r46 M47 => bnd (f_X11_thrown N M47) (fun r49 M50 => (if r49 = r30 then (if r30 = (0 : Int32) then grd (inb (0 : Int32) 1) ((if (lg_cmp (M50 219 ((0 : Int32)).toNatClampNeg).toInt64 (r46).toInt64) = (0 : Int32) then some (true, M50) else some (false, M50))) else some (true, M50)) else some (false, M50)))))))))))
set_option maxRecDepth 20000 in
set_option maxHeartbeats 4000000 in
theorem okc_39 {N Ln : Nat} {xs : Nat → Int32} {X : am_X} {l : Launch} (hl : l.stackTraces = false) (hC : am_C X l room_1 cL_law_ RL (some .boolean)) (hs : am_SC X xs Ln) {v4 : Int32} {M M' : Mm} {ce sl : Nat} {Q : State → Prop} (hce : ce + 100 ≤ 601024) (hsl : sl + 1000 ≤ 7293034) (h : f_L_c39 N Ln xs v4 M = some (true, M')) (k : am_V X LY M' (ce + 3) (sl + 18) Q 2644 [some (.ref am_sc), some (.ref 0), some (.ref 208), some (.ref 219), some (.int v4), none, none] []) : am_V X LY M ce sl Q 2237 [some (.ref am_sc), some (.ref 0), some (.ref 208), some (.ref 219), some (.int v4), none, none] [] := by
  unfold f_L_c39 at h
  refine v_aload_n hC dL_law__2237 rfl ?_
  refine v_aload_n hC dL_law__2238 rfl ?_
  refine v_iload hC dL_law__2239 rfl ?_
  refine v_iconst (v := (1 : Int32)) hC dL_law__2241 rfl ?_
  refine v_iadd hC dL_law__2242 ?_
  obtain ⟨g1, h⟩ := grd_some h
  refine v_ssl hC hs (inb_in g1) dL_law__2243 ?_
  refine v_aload_n hC dL_law__2244 rfl ?_
  refine v_iload hC dL_law__2245 rfl ?_
  refine v_iconst (v := (2 : Int32)) hC dL_law__2247 rfl ?_
  refine v_iadd hC dL_law__2248 ?_
  obtain ⟨g2, h⟩ := grd_some h
  refine v_ssl hC hs (inb_in g2) dL_law__2249 ?_
  refine v_if_eq hC 2257 dL_law__2250 rfl (fun c3 => ?_) (fun c3 => ?_)
  · rw [if_pos c3] at h
    refine v_iconst (v := (0 : Int32)) hC dL_law__2257 rfl ?_
    refine v_aload_n hC dL_law__2258 rfl ?_
    obtain ⟨r4, M5, q6, h⟩ := bnd_some h
    refine w_callSH hC [.ref 0, .int (xs ((v4 + (1 : Int32))).toNatClampNeg), .int (0 : Int32), .ref 219] [] (ok_L_trial hl q6) mh_L_trial aw_1176 rfl (Nat.le_of_ble_eq_true rfl) ⟨by decide, by decide⟩ ⟨by show _ ≤ 601024; omega, by show _ ≤ 7293034; omega⟩ dL_law__2259 ?_
    refine w_istore hC dL_law__2262 (ltk rfl) [some (.ref am_sc), some (.ref 0), some (.ref 208), some (.ref 219), some (.int v4), some (.int r4), none] rfl ?_
    refine v_aload_n hC dL_law__2264 rfl ?_
    refine v_aload_n hC dL_law__2265 rfl ?_
    refine v_iload hC dL_law__2266 rfl ?_
    refine v_iconst (v := (1 : Int32)) hC dL_law__2268 rfl ?_
    refine v_iadd hC dL_law__2269 ?_
    obtain ⟨g7, h⟩ := grd_some h
    refine v_ssl hC hs (inb_in g7) dL_law__2270 ?_
    refine v_aload_n hC dL_law__2271 rfl ?_
    refine v_iload hC dL_law__2272 rfl ?_
    refine v_iconst (v := (2 : Int32)) hC dL_law__2274 rfl ?_
    refine v_iadd hC dL_law__2275 ?_
    obtain ⟨g8, h⟩ := grd_some h
    refine v_ssl hC hs (inb_in g8) dL_law__2276 ?_
    refine v_if_eq hC 2284 dL_law__2277 rfl (fun c9 => ?_) (fun c9 => ?_)
    · rw [if_pos c9] at h
      refine v_iconst (v := (0 : Int32)) hC dL_law__2284 rfl ?_
      obtain ⟨r10, M11, q12, h⟩ := bnd_some h
      refine w_callVi hC [.int (xs ((v4 + (1 : Int32))).toNatClampNeg), .int (0 : Int32)] [] (ok_X11_trial q12) mv_X11_trial aw_1807 ly_208 rfl (Nat.le_of_ble_eq_true rfl) ⟨by decide, by decide⟩ ⟨by show _ ≤ 601024; omega, by show _ ≤ 7293034; omega⟩ dL_law__2285 ?_
      refine w_istore hC dL_law__2288 (ltk rfl) [some (.ref am_sc), some (.ref 0), some (.ref 208), some (.ref 219), some (.int v4), some (.int r4), some (.int r10)] rfl ?_
      refine v_aload_n hC dL_law__2290 rfl ?_
      obtain ⟨r13, M14, q15, h⟩ := bnd_some h
      refine w_callVi hC [] [] (ok_X11_thrown q15) mv_X11_thrown aw_1221 ly_208 rfl (Nat.le_of_ble_eq_true rfl) ⟨by decide, by decide⟩ ⟨by show _ ≤ 601024; omega, by show _ ≤ 7293034; omega⟩ dL_law__2291 ?_
      refine v_iload hC dL_law__2294 rfl ?_
      refine v_icmp_eq hC 2301 dL_law__2296 rfl (fun c16 => ?_) (fun c16 => ?_)
      · rw [if_pos c16] at h
        refine v_iload hC dL_law__2301 rfl ?_
        refine v_if_ne hC 2318 dL_law__2303 rfl (fun c17 => ?_) (fun c17 => ?_)
        · rw [if_neg c17] at h
          refine v_goto (tg := 2644) hC dL_law__2318 rfl ?_
          refine v_drop [true, true, true, true, true, false, false] [some (.ref am_sc), some (.ref 0), some (.ref 208), some (.ref 219), some (.int v4), none, none] rfl ?_
          cases h
          exact v_widen (k := ce + 3) (n := sl + 18) (by omega) (by omega) k
        · rw [if_pos c17] at h
          refine v_aload_n hC dL_law__2306 rfl ?_
          refine v_iconst (v := (0 : Int32)) hC dL_law__2307 rfl ?_
          obtain ⟨g18, h⟩ := grd_some h
          refine v_lald hC ly_219 (inb_in g18) dL_law__2308 ?_
          refine v_iload hC dL_law__2309 rfl ?_
          refine v_i2l hC dL_law__2311 ?_
          refine v_lcmp hC dL_law__2312 ?_
          refine v_if_eq hC 2318 dL_law__2313 rfl (fun c19 => ?_) (fun c19 => ?_)
          · rw [if_pos c19] at h
            refine v_goto (tg := 2644) hC dL_law__2318 rfl ?_
            refine v_drop [true, true, true, true, true, false, false] [some (.ref am_sc), some (.ref 0), some (.ref 208), some (.ref 219), some (.int v4), none, none] rfl ?_
            cases h
            exact v_widen (k := ce + 3) (n := sl + 18) (by omega) (by omega) k
          · rw [if_neg c19] at h
            cases h
      · rw [if_neg c16] at h
        cases h
    · rw [if_neg c9] at h
      refine v_iconst (v := (1 : Int32)) hC dL_law__2280 rfl ?_
      refine v_goto (tg := 2285) hC dL_law__2281 rfl ?_
      obtain ⟨r20, M21, q22, h⟩ := bnd_some h
      refine w_callVi hC [.int (xs ((v4 + (1 : Int32))).toNatClampNeg), .int (1 : Int32)] [] (ok_X11_trial q22) mv_X11_trial aw_1807 ly_208 rfl (Nat.le_of_ble_eq_true rfl) ⟨by decide, by decide⟩ ⟨by show _ ≤ 601024; omega, by show _ ≤ 7293034; omega⟩ dL_law__2285 ?_
      refine w_istore hC dL_law__2288 (ltk rfl) [some (.ref am_sc), some (.ref 0), some (.ref 208), some (.ref 219), some (.int v4), some (.int r4), some (.int r20)] rfl ?_
      refine v_aload_n hC dL_law__2290 rfl ?_
      obtain ⟨r23, M24, q25, h⟩ := bnd_some h
      refine w_callVi hC [] [] (ok_X11_thrown q25) mv_X11_thrown aw_1221 ly_208 rfl (Nat.le_of_ble_eq_true rfl) ⟨by decide, by decide⟩ ⟨by show _ ≤ 601024; omega, by show _ ≤ 7293034; omega⟩ dL_law__2291 ?_
      refine v_iload hC dL_law__2294 rfl ?_
      refine v_icmp_eq hC 2301 dL_law__2296 rfl (fun c26 => ?_) (fun c26 => ?_)
      · rw [if_pos c26] at h
        refine v_iload hC dL_law__2301 rfl ?_
        refine v_if_ne hC 2318 dL_law__2303 rfl (fun c27 => ?_) (fun c27 => ?_)
        · rw [if_neg c27] at h
          refine v_goto (tg := 2644) hC dL_law__2318 rfl ?_
          refine v_drop [true, true, true, true, true, false, false] [some (.ref am_sc), some (.ref 0), some (.ref 208), some (.ref 219), some (.int v4), none, none] rfl ?_
          cases h
          exact v_widen (k := ce + 3) (n := sl + 18) (by omega) (by omega) k
        · rw [if_pos c27] at h
          refine v_aload_n hC dL_law__2306 rfl ?_
          refine v_iconst (v := (0 : Int32)) hC dL_law__2307 rfl ?_
          obtain ⟨g28, h⟩ := grd_some h
          refine v_lald hC ly_219 (inb_in g28) dL_law__2308 ?_
          refine v_iload hC dL_law__2309 rfl ?_
          refine v_i2l hC dL_law__2311 ?_
          refine v_lcmp hC dL_law__2312 ?_
          refine v_if_eq hC 2318 dL_law__2313 rfl (fun c29 => ?_) (fun c29 => ?_)
          · rw [if_pos c29] at h
            refine v_goto (tg := 2644) hC dL_law__2318 rfl ?_
            refine v_drop [true, true, true, true, true, false, false] [some (.ref am_sc), some (.ref 0), some (.ref 208), some (.ref 219), some (.int v4), none, none] rfl ?_
            cases h
            exact v_widen (k := ce + 3) (n := sl + 18) (by omega) (by omega) k
          · rw [if_neg c29] at h
            cases h
      · rw [if_neg c26] at h
        cases h
  · rw [if_neg c3] at h
    refine v_iconst (v := (1 : Int32)) hC dL_law__2253 rfl ?_
    refine v_goto (tg := 2258) hC dL_law__2254 rfl ?_
    refine v_aload_n hC dL_law__2258 rfl ?_
    obtain ⟨r30, M31, q32, h⟩ := bnd_some h
    refine w_callSH hC [.ref 0, .int (xs ((v4 + (1 : Int32))).toNatClampNeg), .int (1 : Int32), .ref 219] [] (ok_L_trial hl q32) mh_L_trial aw_1176 rfl (Nat.le_of_ble_eq_true rfl) ⟨by decide, by decide⟩ ⟨by show _ ≤ 601024; omega, by show _ ≤ 7293034; omega⟩ dL_law__2259 ?_
    refine w_istore hC dL_law__2262 (ltk rfl) [some (.ref am_sc), some (.ref 0), some (.ref 208), some (.ref 219), some (.int v4), some (.int r30), none] rfl ?_
    refine v_aload_n hC dL_law__2264 rfl ?_
    refine v_aload_n hC dL_law__2265 rfl ?_
    refine v_iload hC dL_law__2266 rfl ?_
    refine v_iconst (v := (1 : Int32)) hC dL_law__2268 rfl ?_
    refine v_iadd hC dL_law__2269 ?_
    obtain ⟨g33, h⟩ := grd_some h
    refine v_ssl hC hs (inb_in g33) dL_law__2270 ?_
    refine v_aload_n hC dL_law__2271 rfl ?_
    refine v_iload hC dL_law__2272 rfl ?_
    refine v_iconst (v := (2 : Int32)) hC dL_law__2274 rfl ?_
    refine v_iadd hC dL_law__2275 ?_
    obtain ⟨g34, h⟩ := grd_some h
    refine v_ssl hC hs (inb_in g34) dL_law__2276 ?_
    refine v_if_eq hC 2284 dL_law__2277 rfl (fun c35 => ?_) (fun c35 => ?_)
    · rw [if_pos c35] at h
      refine v_iconst (v := (0 : Int32)) hC dL_law__2284 rfl ?_
      obtain ⟨r36, M37, q38, h⟩ := bnd_some h
      refine w_callVi hC [.int (xs ((v4 + (1 : Int32))).toNatClampNeg), .int (0 : Int32)] [] (ok_X11_trial q38) mv_X11_trial aw_1807 ly_208 rfl (Nat.le_of_ble_eq_true rfl) ⟨by decide, by decide⟩ ⟨by show _ ≤ 601024; omega, by show _ ≤ 7293034; omega⟩ dL_law__2285 ?_
      refine w_istore hC dL_law__2288 (ltk rfl) [some (.ref am_sc), some (.ref 0), some (.ref 208), some (.ref 219), some (.int v4), some (.int r30), some (.int r36)] rfl ?_
      refine v_aload_n hC dL_law__2290 rfl ?_
      obtain ⟨r39, M40, q41, h⟩ := bnd_some h
      refine w_callVi hC [] [] (ok_X11_thrown q41) mv_X11_thrown aw_1221 ly_208 rfl (Nat.le_of_ble_eq_true rfl) ⟨by decide, by decide⟩ ⟨by show _ ≤ 601024; omega, by show _ ≤ 7293034; omega⟩ dL_law__2291 ?_
      refine v_iload hC dL_law__2294 rfl ?_
      refine v_icmp_eq hC 2301 dL_law__2296 rfl (fun c42 => ?_) (fun c42 => ?_)
      · rw [if_pos c42] at h
        refine v_iload hC dL_law__2301 rfl ?_
        refine v_if_ne hC 2318 dL_law__2303 rfl (fun c43 => ?_) (fun c43 => ?_)
        · rw [if_neg c43] at h
          refine v_goto (tg := 2644) hC dL_law__2318 rfl ?_
          refine v_drop [true, true, true, true, true, false, false] [some (.ref am_sc), some (.ref 0), some (.ref 208), some (.ref 219), some (.int v4), none, none] rfl ?_
          cases h
          exact v_widen (k := ce + 3) (n := sl + 18) (by omega) (by omega) k
        · rw [if_pos c43] at h
          refine v_aload_n hC dL_law__2306 rfl ?_
          refine v_iconst (v := (0 : Int32)) hC dL_law__2307 rfl ?_
          obtain ⟨g44, h⟩ := grd_some h
          refine v_lald hC ly_219 (inb_in g44) dL_law__2308 ?_
          refine v_iload hC dL_law__2309 rfl ?_
          refine v_i2l hC dL_law__2311 ?_
          refine v_lcmp hC dL_law__2312 ?_
          refine v_if_eq hC 2318 dL_law__2313 rfl (fun c45 => ?_) (fun c45 => ?_)
          · rw [if_pos c45] at h
            refine v_goto (tg := 2644) hC dL_law__2318 rfl ?_
            refine v_drop [true, true, true, true, true, false, false] [some (.ref am_sc), some (.ref 0), some (.ref 208), some (.ref 219), some (.int v4), none, none] rfl ?_
            cases h
            exact v_widen (k := ce + 3) (n := sl + 18) (by omega) (by omega) k
          · rw [if_neg c45] at h
            cases h
      · rw [if_neg c42] at h
        cases h
    · rw [if_neg c35] at h
      refine v_iconst (v := (1 : Int32)) hC dL_law__2280 rfl ?_
      refine v_goto (tg := 2285) hC dL_law__2281 rfl ?_
      obtain ⟨r46, M47, q48, h⟩ := bnd_some h
      refine w_callVi hC [.int (xs ((v4 + (1 : Int32))).toNatClampNeg), .int (1 : Int32)] [] (ok_X11_trial q48) mv_X11_trial aw_1807 ly_208 rfl (Nat.le_of_ble_eq_true rfl) ⟨by decide, by decide⟩ ⟨by show _ ≤ 601024; omega, by show _ ≤ 7293034; omega⟩ dL_law__2285 ?_
      refine w_istore hC dL_law__2288 (ltk rfl) [some (.ref am_sc), some (.ref 0), some (.ref 208), some (.ref 219), some (.int v4), some (.int r30), some (.int r46)] rfl ?_
      refine v_aload_n hC dL_law__2290 rfl ?_
      obtain ⟨r49, M50, q51, h⟩ := bnd_some h
      refine w_callVi hC [] [] (ok_X11_thrown q51) mv_X11_thrown aw_1221 ly_208 rfl (Nat.le_of_ble_eq_true rfl) ⟨by decide, by decide⟩ ⟨by show _ ≤ 601024; omega, by show _ ≤ 7293034; omega⟩ dL_law__2291 ?_
      refine v_iload hC dL_law__2294 rfl ?_
      refine v_icmp_eq hC 2301 dL_law__2296 rfl (fun c52 => ?_) (fun c52 => ?_)
      · rw [if_pos c52] at h
        refine v_iload hC dL_law__2301 rfl ?_
        refine v_if_ne hC 2318 dL_law__2303 rfl (fun c53 => ?_) (fun c53 => ?_)
        · rw [if_neg c53] at h
          refine v_goto (tg := 2644) hC dL_law__2318 rfl ?_
          refine v_drop [true, true, true, true, true, false, false] [some (.ref am_sc), some (.ref 0), some (.ref 208), some (.ref 219), some (.int v4), none, none] rfl ?_
          cases h
          exact v_widen (k := ce + 3) (n := sl + 18) (by omega) (by omega) k
        · rw [if_pos c53] at h
          refine v_aload_n hC dL_law__2306 rfl ?_
          refine v_iconst (v := (0 : Int32)) hC dL_law__2307 rfl ?_
          obtain ⟨g54, h⟩ := grd_some h
          refine v_lald hC ly_219 (inb_in g54) dL_law__2308 ?_
          refine v_iload hC dL_law__2309 rfl ?_
          refine v_i2l hC dL_law__2311 ?_
          refine v_lcmp hC dL_law__2312 ?_
          refine v_if_eq hC 2318 dL_law__2313 rfl (fun c55 => ?_) (fun c55 => ?_)
          · rw [if_pos c55] at h
            refine v_goto (tg := 2644) hC dL_law__2318 rfl ?_
            refine v_drop [true, true, true, true, true, false, false] [some (.ref am_sc), some (.ref 0), some (.ref 208), some (.ref 219), some (.int v4), none, none] rfl ?_
            cases h
            exact v_widen (k := ce + 3) (n := sl + 18) (by omega) (by omega) k
          · rw [if_neg c55] at h
            cases h
      · rw [if_neg c52] at h
        cases h
def f_L_c40 (N Ln : Nat) (xs : Nat → Int32) (v4 : Int32) (M : Mm) : Option (Bool × Mm) :=
  grd (inb (v4 + (1 : Int32)) Ln) (grd (inb (v4 + (2 : Int32)) Ln) ((if (xs ((v4 + (2 : Int32))).toNatClampNeg) = (0 : Int32) then bnd (f_L_span N (xs ((v4 + (1 : Int32))).toNatClampNeg) (0 : Int32) M) (fun r4 M5 => grd (inb (v4 + (1 : Int32)) Ln) (grd (inb (v4 + (2 : Int32)) Ln) ((if (xs ((v4 + (2 : Int32))).toNatClampNeg) = (0 : Int32) then bnd (f_X11_span N (xs ((v4 + (1 : Int32))).toNatClampNeg) (0 : Int32) M5) (fun r10 M11 => bnd (f_X11_thrown N M11) (fun r13 M14 => (if r13 = r4 then (if r4 = (0 : Int32) then grd (inb (0 : Int32) 1) ((if (lg_cmp (M14 219 ((0 : Int32)).toNatClampNeg).toInt64 (r10).toInt64) = (0 : Int32) then some (true, M14) else some (false, M14))) else some (true, M14)) else some (false, M14)))) else bnd (f_X11_span N (xs ((v4 + (1 : Int32))).toNatClampNeg) (1 : Int32) M5) (fun r20 M21 => bnd (f_X11_thrown N M21) (fun r23 M24 => (if r23 = r4 then (if r4 = (0 : Int32) then grd (inb (0 : Int32) 1) ((if (lg_cmp (M24 219 ((0 : Int32)).toNatClampNeg).toInt64 (r20).toInt64) = (0 : Int32) then some (true, M24) else some (false, M24))) else some (true, M24)) else some (false, M24)))))))) else bnd (f_L_span N (xs ((v4 + (1 : Int32))).toNatClampNeg) (1 : Int32) M) (fun r30 M31 => grd (inb (v4 + (1 : Int32)) Ln) (grd (inb (v4 + (2 : Int32)) Ln) ((if (xs ((v4 + (2 : Int32))).toNatClampNeg) = (0 : Int32) then bnd (f_X11_span N (xs ((v4 + (1 : Int32))).toNatClampNeg) (0 : Int32) M31) (fun r36 M37 => bnd (f_X11_thrown N M37) (fun r39 M40 => (if r39 = r30 then (if r30 = (0 : Int32) then grd (inb (0 : Int32) 1) ((if (lg_cmp (M40 219 ((0 : Int32)).toNatClampNeg).toInt64 (r36).toInt64) = (0 : Int32) then some (true, M40) else some (false, M40))) else some (true, M40)) else some (false, M40)))) else bnd (f_X11_span N (xs ((v4 + (1 : Int32))).toNatClampNeg) (1 : Int32) M31) (fun r46 M47 => bnd (f_X11_thrown N M47) (fun r49 M50 => (if r49 = r30 then (if r30 = (0 : Int32) then grd (inb (0 : Int32) 1) ((if (lg_cmp (M50 219 ((0 : Int32)).toNatClampNeg).toInt64 (r46).toInt64) = (0 : Int32) then some (true, M50) else some (false, M50))) else some (true, M50)) else some (false, M50)))))))))))
set_option maxRecDepth 20000 in
set_option maxHeartbeats 4000000 in
theorem okc_40 {N Ln : Nat} {xs : Nat → Int32} {X : am_X} {l : Launch} (hl : l.stackTraces = false) (hC : am_C X l room_1 cL_law_ RL (some .boolean)) (hs : am_SC X xs Ln) {v4 : Int32} {M M' : Mm} {ce sl : Nat} {Q : State → Prop} (hce : ce + 100 ≤ 601024) (hsl : sl + 1000 ≤ 7293034) (h : f_L_c40 N Ln xs v4 M = some (true, M')) (k : am_V X LY M' (ce + 3) (sl + 18) Q 2644 [some (.ref am_sc), some (.ref 0), some (.ref 208), some (.ref 219), some (.int v4), none, none] []) : am_V X LY M ce sl Q 2321 [some (.ref am_sc), some (.ref 0), some (.ref 208), some (.ref 219), some (.int v4), none, none] [] := by
  unfold f_L_c40 at h
  refine v_aload_n hC dL_law__2321 rfl ?_
  refine v_aload_n hC dL_law__2322 rfl ?_
  refine v_iload hC dL_law__2323 rfl ?_
  refine v_iconst (v := (1 : Int32)) hC dL_law__2325 rfl ?_
  refine v_iadd hC dL_law__2326 ?_
  obtain ⟨g1, h⟩ := grd_some h
  refine v_ssl hC hs (inb_in g1) dL_law__2327 ?_
  refine v_aload_n hC dL_law__2328 rfl ?_
  refine v_iload hC dL_law__2329 rfl ?_
  refine v_iconst (v := (2 : Int32)) hC dL_law__2331 rfl ?_
  refine v_iadd hC dL_law__2332 ?_
  obtain ⟨g2, h⟩ := grd_some h
  refine v_ssl hC hs (inb_in g2) dL_law__2333 ?_
  refine v_if_eq hC 2341 dL_law__2334 rfl (fun c3 => ?_) (fun c3 => ?_)
  · rw [if_pos c3] at h
    refine v_iconst (v := (0 : Int32)) hC dL_law__2341 rfl ?_
    refine v_aload_n hC dL_law__2342 rfl ?_
    obtain ⟨r4, M5, q6, h⟩ := bnd_some h
    refine w_callSH hC [.ref 0, .int (xs ((v4 + (1 : Int32))).toNatClampNeg), .int (0 : Int32), .ref 219] [] (ok_L_span hl q6) mh_L_span aw_1187 rfl (Nat.le_of_ble_eq_true rfl) ⟨by decide, by decide⟩ ⟨by show _ ≤ 601024; omega, by show _ ≤ 7293034; omega⟩ dL_law__2343 ?_
    refine w_istore hC dL_law__2346 (ltk rfl) [some (.ref am_sc), some (.ref 0), some (.ref 208), some (.ref 219), some (.int v4), some (.int r4), none] rfl ?_
    refine v_aload_n hC dL_law__2348 rfl ?_
    refine v_aload_n hC dL_law__2349 rfl ?_
    refine v_iload hC dL_law__2350 rfl ?_
    refine v_iconst (v := (1 : Int32)) hC dL_law__2352 rfl ?_
    refine v_iadd hC dL_law__2353 ?_
    obtain ⟨g7, h⟩ := grd_some h
    refine v_ssl hC hs (inb_in g7) dL_law__2354 ?_
    refine v_aload_n hC dL_law__2355 rfl ?_
    refine v_iload hC dL_law__2356 rfl ?_
    refine v_iconst (v := (2 : Int32)) hC dL_law__2358 rfl ?_
    refine v_iadd hC dL_law__2359 ?_
    obtain ⟨g8, h⟩ := grd_some h
    refine v_ssl hC hs (inb_in g8) dL_law__2360 ?_
    refine v_if_eq hC 2368 dL_law__2361 rfl (fun c9 => ?_) (fun c9 => ?_)
    · rw [if_pos c9] at h
      refine v_iconst (v := (0 : Int32)) hC dL_law__2368 rfl ?_
      obtain ⟨r10, M11, q12, h⟩ := bnd_some h
      refine w_callVi hC [.int (xs ((v4 + (1 : Int32))).toNatClampNeg), .int (0 : Int32)] [] (ok_X11_span q12) mv_X11_span aw_1811 ly_208 rfl (Nat.le_of_ble_eq_true rfl) ⟨by decide, by decide⟩ ⟨by show _ ≤ 601024; omega, by show _ ≤ 7293034; omega⟩ dL_law__2369 ?_
      refine w_istore hC dL_law__2372 (ltk rfl) [some (.ref am_sc), some (.ref 0), some (.ref 208), some (.ref 219), some (.int v4), some (.int r4), some (.int r10)] rfl ?_
      refine v_aload_n hC dL_law__2374 rfl ?_
      obtain ⟨r13, M14, q15, h⟩ := bnd_some h
      refine w_callVi hC [] [] (ok_X11_thrown q15) mv_X11_thrown aw_1221 ly_208 rfl (Nat.le_of_ble_eq_true rfl) ⟨by decide, by decide⟩ ⟨by show _ ≤ 601024; omega, by show _ ≤ 7293034; omega⟩ dL_law__2375 ?_
      refine v_iload hC dL_law__2378 rfl ?_
      refine v_icmp_eq hC 2385 dL_law__2380 rfl (fun c16 => ?_) (fun c16 => ?_)
      · rw [if_pos c16] at h
        refine v_iload hC dL_law__2385 rfl ?_
        refine v_if_ne hC 2402 dL_law__2387 rfl (fun c17 => ?_) (fun c17 => ?_)
        · rw [if_neg c17] at h
          refine v_goto (tg := 2644) hC dL_law__2402 rfl ?_
          refine v_drop [true, true, true, true, true, false, false] [some (.ref am_sc), some (.ref 0), some (.ref 208), some (.ref 219), some (.int v4), none, none] rfl ?_
          cases h
          exact v_widen (k := ce + 3) (n := sl + 18) (by omega) (by omega) k
        · rw [if_pos c17] at h
          refine v_aload_n hC dL_law__2390 rfl ?_
          refine v_iconst (v := (0 : Int32)) hC dL_law__2391 rfl ?_
          obtain ⟨g18, h⟩ := grd_some h
          refine v_lald hC ly_219 (inb_in g18) dL_law__2392 ?_
          refine v_iload hC dL_law__2393 rfl ?_
          refine v_i2l hC dL_law__2395 ?_
          refine v_lcmp hC dL_law__2396 ?_
          refine v_if_eq hC 2402 dL_law__2397 rfl (fun c19 => ?_) (fun c19 => ?_)
          · rw [if_pos c19] at h
            refine v_goto (tg := 2644) hC dL_law__2402 rfl ?_
            refine v_drop [true, true, true, true, true, false, false] [some (.ref am_sc), some (.ref 0), some (.ref 208), some (.ref 219), some (.int v4), none, none] rfl ?_
            cases h
            exact v_widen (k := ce + 3) (n := sl + 18) (by omega) (by omega) k
          · rw [if_neg c19] at h
            cases h
      · rw [if_neg c16] at h
        cases h
    · rw [if_neg c9] at h
      refine v_iconst (v := (1 : Int32)) hC dL_law__2364 rfl ?_
      refine v_goto (tg := 2369) hC dL_law__2365 rfl ?_
      obtain ⟨r20, M21, q22, h⟩ := bnd_some h
      refine w_callVi hC [.int (xs ((v4 + (1 : Int32))).toNatClampNeg), .int (1 : Int32)] [] (ok_X11_span q22) mv_X11_span aw_1811 ly_208 rfl (Nat.le_of_ble_eq_true rfl) ⟨by decide, by decide⟩ ⟨by show _ ≤ 601024; omega, by show _ ≤ 7293034; omega⟩ dL_law__2369 ?_
      refine w_istore hC dL_law__2372 (ltk rfl) [some (.ref am_sc), some (.ref 0), some (.ref 208), some (.ref 219), some (.int v4), some (.int r4), some (.int r20)] rfl ?_
      refine v_aload_n hC dL_law__2374 rfl ?_
      obtain ⟨r23, M24, q25, h⟩ := bnd_some h
      refine w_callVi hC [] [] (ok_X11_thrown q25) mv_X11_thrown aw_1221 ly_208 rfl (Nat.le_of_ble_eq_true rfl) ⟨by decide, by decide⟩ ⟨by show _ ≤ 601024; omega, by show _ ≤ 7293034; omega⟩ dL_law__2375 ?_
      refine v_iload hC dL_law__2378 rfl ?_
      refine v_icmp_eq hC 2385 dL_law__2380 rfl (fun c26 => ?_) (fun c26 => ?_)
      · rw [if_pos c26] at h
        refine v_iload hC dL_law__2385 rfl ?_
        refine v_if_ne hC 2402 dL_law__2387 rfl (fun c27 => ?_) (fun c27 => ?_)
        · rw [if_neg c27] at h
          refine v_goto (tg := 2644) hC dL_law__2402 rfl ?_
          refine v_drop [true, true, true, true, true, false, false] [some (.ref am_sc), some (.ref 0), some (.ref 208), some (.ref 219), some (.int v4), none, none] rfl ?_
          cases h
          exact v_widen (k := ce + 3) (n := sl + 18) (by omega) (by omega) k
        · rw [if_pos c27] at h
          refine v_aload_n hC dL_law__2390 rfl ?_
          refine v_iconst (v := (0 : Int32)) hC dL_law__2391 rfl ?_
          obtain ⟨g28, h⟩ := grd_some h
          refine v_lald hC ly_219 (inb_in g28) dL_law__2392 ?_
          refine v_iload hC dL_law__2393 rfl ?_
          refine v_i2l hC dL_law__2395 ?_
          refine v_lcmp hC dL_law__2396 ?_
          refine v_if_eq hC 2402 dL_law__2397 rfl (fun c29 => ?_) (fun c29 => ?_)
          · rw [if_pos c29] at h
            refine v_goto (tg := 2644) hC dL_law__2402 rfl ?_
            refine v_drop [true, true, true, true, true, false, false] [some (.ref am_sc), some (.ref 0), some (.ref 208), some (.ref 219), some (.int v4), none, none] rfl ?_
            cases h
            exact v_widen (k := ce + 3) (n := sl + 18) (by omega) (by omega) k
          · rw [if_neg c29] at h
            cases h
      · rw [if_neg c26] at h
        cases h
  · rw [if_neg c3] at h
    refine v_iconst (v := (1 : Int32)) hC dL_law__2337 rfl ?_
    refine v_goto (tg := 2342) hC dL_law__2338 rfl ?_
    refine v_aload_n hC dL_law__2342 rfl ?_
    obtain ⟨r30, M31, q32, h⟩ := bnd_some h
    refine w_callSH hC [.ref 0, .int (xs ((v4 + (1 : Int32))).toNatClampNeg), .int (1 : Int32), .ref 219] [] (ok_L_span hl q32) mh_L_span aw_1187 rfl (Nat.le_of_ble_eq_true rfl) ⟨by decide, by decide⟩ ⟨by show _ ≤ 601024; omega, by show _ ≤ 7293034; omega⟩ dL_law__2343 ?_
    refine w_istore hC dL_law__2346 (ltk rfl) [some (.ref am_sc), some (.ref 0), some (.ref 208), some (.ref 219), some (.int v4), some (.int r30), none] rfl ?_
    refine v_aload_n hC dL_law__2348 rfl ?_
    refine v_aload_n hC dL_law__2349 rfl ?_
    refine v_iload hC dL_law__2350 rfl ?_
    refine v_iconst (v := (1 : Int32)) hC dL_law__2352 rfl ?_
    refine v_iadd hC dL_law__2353 ?_
    obtain ⟨g33, h⟩ := grd_some h
    refine v_ssl hC hs (inb_in g33) dL_law__2354 ?_
    refine v_aload_n hC dL_law__2355 rfl ?_
    refine v_iload hC dL_law__2356 rfl ?_
    refine v_iconst (v := (2 : Int32)) hC dL_law__2358 rfl ?_
    refine v_iadd hC dL_law__2359 ?_
    obtain ⟨g34, h⟩ := grd_some h
    refine v_ssl hC hs (inb_in g34) dL_law__2360 ?_
    refine v_if_eq hC 2368 dL_law__2361 rfl (fun c35 => ?_) (fun c35 => ?_)
    · rw [if_pos c35] at h
      refine v_iconst (v := (0 : Int32)) hC dL_law__2368 rfl ?_
      obtain ⟨r36, M37, q38, h⟩ := bnd_some h
      refine w_callVi hC [.int (xs ((v4 + (1 : Int32))).toNatClampNeg), .int (0 : Int32)] [] (ok_X11_span q38) mv_X11_span aw_1811 ly_208 rfl (Nat.le_of_ble_eq_true rfl) ⟨by decide, by decide⟩ ⟨by show _ ≤ 601024; omega, by show _ ≤ 7293034; omega⟩ dL_law__2369 ?_
      refine w_istore hC dL_law__2372 (ltk rfl) [some (.ref am_sc), some (.ref 0), some (.ref 208), some (.ref 219), some (.int v4), some (.int r30), some (.int r36)] rfl ?_
      refine v_aload_n hC dL_law__2374 rfl ?_
      obtain ⟨r39, M40, q41, h⟩ := bnd_some h
      refine w_callVi hC [] [] (ok_X11_thrown q41) mv_X11_thrown aw_1221 ly_208 rfl (Nat.le_of_ble_eq_true rfl) ⟨by decide, by decide⟩ ⟨by show _ ≤ 601024; omega, by show _ ≤ 7293034; omega⟩ dL_law__2375 ?_
      refine v_iload hC dL_law__2378 rfl ?_
      refine v_icmp_eq hC 2385 dL_law__2380 rfl (fun c42 => ?_) (fun c42 => ?_)
      · rw [if_pos c42] at h
        refine v_iload hC dL_law__2385 rfl ?_
        refine v_if_ne hC 2402 dL_law__2387 rfl (fun c43 => ?_) (fun c43 => ?_)
        · rw [if_neg c43] at h
          refine v_goto (tg := 2644) hC dL_law__2402 rfl ?_
          refine v_drop [true, true, true, true, true, false, false] [some (.ref am_sc), some (.ref 0), some (.ref 208), some (.ref 219), some (.int v4), none, none] rfl ?_
          cases h
          exact v_widen (k := ce + 3) (n := sl + 18) (by omega) (by omega) k
        · rw [if_pos c43] at h
          refine v_aload_n hC dL_law__2390 rfl ?_
          refine v_iconst (v := (0 : Int32)) hC dL_law__2391 rfl ?_
          obtain ⟨g44, h⟩ := grd_some h
          refine v_lald hC ly_219 (inb_in g44) dL_law__2392 ?_
          refine v_iload hC dL_law__2393 rfl ?_
          refine v_i2l hC dL_law__2395 ?_
          refine v_lcmp hC dL_law__2396 ?_
          refine v_if_eq hC 2402 dL_law__2397 rfl (fun c45 => ?_) (fun c45 => ?_)
          · rw [if_pos c45] at h
            refine v_goto (tg := 2644) hC dL_law__2402 rfl ?_
            refine v_drop [true, true, true, true, true, false, false] [some (.ref am_sc), some (.ref 0), some (.ref 208), some (.ref 219), some (.int v4), none, none] rfl ?_
            cases h
            exact v_widen (k := ce + 3) (n := sl + 18) (by omega) (by omega) k
          · rw [if_neg c45] at h
            cases h
      · rw [if_neg c42] at h
        cases h
    · rw [if_neg c35] at h
      refine v_iconst (v := (1 : Int32)) hC dL_law__2364 rfl ?_
      refine v_goto (tg := 2369) hC dL_law__2365 rfl ?_
      obtain ⟨r46, M47, q48, h⟩ := bnd_some h
      refine w_callVi hC [.int (xs ((v4 + (1 : Int32))).toNatClampNeg), .int (1 : Int32)] [] (ok_X11_span q48) mv_X11_span aw_1811 ly_208 rfl (Nat.le_of_ble_eq_true rfl) ⟨by decide, by decide⟩ ⟨by show _ ≤ 601024; omega, by show _ ≤ 7293034; omega⟩ dL_law__2369 ?_
      refine w_istore hC dL_law__2372 (ltk rfl) [some (.ref am_sc), some (.ref 0), some (.ref 208), some (.ref 219), some (.int v4), some (.int r30), some (.int r46)] rfl ?_
      refine v_aload_n hC dL_law__2374 rfl ?_
      obtain ⟨r49, M50, q51, h⟩ := bnd_some h
      refine w_callVi hC [] [] (ok_X11_thrown q51) mv_X11_thrown aw_1221 ly_208 rfl (Nat.le_of_ble_eq_true rfl) ⟨by decide, by decide⟩ ⟨by show _ ≤ 601024; omega, by show _ ≤ 7293034; omega⟩ dL_law__2375 ?_
      refine v_iload hC dL_law__2378 rfl ?_
      refine v_icmp_eq hC 2385 dL_law__2380 rfl (fun c52 => ?_) (fun c52 => ?_)
      · rw [if_pos c52] at h
        refine v_iload hC dL_law__2385 rfl ?_
        refine v_if_ne hC 2402 dL_law__2387 rfl (fun c53 => ?_) (fun c53 => ?_)
        · rw [if_neg c53] at h
          refine v_goto (tg := 2644) hC dL_law__2402 rfl ?_
          refine v_drop [true, true, true, true, true, false, false] [some (.ref am_sc), some (.ref 0), some (.ref 208), some (.ref 219), some (.int v4), none, none] rfl ?_
          cases h
          exact v_widen (k := ce + 3) (n := sl + 18) (by omega) (by omega) k
        · rw [if_pos c53] at h
          refine v_aload_n hC dL_law__2390 rfl ?_
          refine v_iconst (v := (0 : Int32)) hC dL_law__2391 rfl ?_
          obtain ⟨g54, h⟩ := grd_some h
          refine v_lald hC ly_219 (inb_in g54) dL_law__2392 ?_
          refine v_iload hC dL_law__2393 rfl ?_
          refine v_i2l hC dL_law__2395 ?_
          refine v_lcmp hC dL_law__2396 ?_
          refine v_if_eq hC 2402 dL_law__2397 rfl (fun c55 => ?_) (fun c55 => ?_)
          · rw [if_pos c55] at h
            refine v_goto (tg := 2644) hC dL_law__2402 rfl ?_
            refine v_drop [true, true, true, true, true, false, false] [some (.ref am_sc), some (.ref 0), some (.ref 208), some (.ref 219), some (.int v4), none, none] rfl ?_
            cases h
            exact v_widen (k := ce + 3) (n := sl + 18) (by omega) (by omega) k
          · rw [if_neg c55] at h
            cases h
      · rw [if_neg c52] at h
        cases h
def f_L_c41 (N Ln : Nat) (xs : Nat → Int32) (v4 : Int32) (M : Mm) : Option (Bool × Mm) :=
  grd (inb (v4 + (1 : Int32)) Ln) (grd (inb (v4 + (2 : Int32)) Ln) ((if (xs ((v4 + (2 : Int32))).toNatClampNeg) = (0 : Int32) then bnd (f_L_led N (xs ((v4 + (1 : Int32))).toNatClampNeg) (0 : Int32) M) (fun r4 M5 => grd (inb (v4 + (1 : Int32)) Ln) (grd (inb (v4 + (2 : Int32)) Ln) ((if (xs ((v4 + (2 : Int32))).toNatClampNeg) = (0 : Int32) then bnd (f_X11_led N (xs ((v4 + (1 : Int32))).toNatClampNeg) (0 : Int32) M5) (fun r10 M11 => bnd (f_X11_thrown N M11) (fun r13 M14 => (if r13 = r4 then (if r4 = (0 : Int32) then grd (inb (0 : Int32) 1) ((if (lg_cmp (M14 219 ((0 : Int32)).toNatClampNeg).toInt64 (r10).toInt64) = (0 : Int32) then some (true, M14) else some (false, M14))) else some (true, M14)) else some (false, M14)))) else bnd (f_X11_led N (xs ((v4 + (1 : Int32))).toNatClampNeg) (1 : Int32) M5) (fun r20 M21 => bnd (f_X11_thrown N M21) (fun r23 M24 => (if r23 = r4 then (if r4 = (0 : Int32) then grd (inb (0 : Int32) 1) ((if (lg_cmp (M24 219 ((0 : Int32)).toNatClampNeg).toInt64 (r20).toInt64) = (0 : Int32) then some (true, M24) else some (false, M24))) else some (true, M24)) else some (false, M24)))))))) else bnd (f_L_led N (xs ((v4 + (1 : Int32))).toNatClampNeg) (1 : Int32) M) (fun r30 M31 => grd (inb (v4 + (1 : Int32)) Ln) (grd (inb (v4 + (2 : Int32)) Ln) ((if (xs ((v4 + (2 : Int32))).toNatClampNeg) = (0 : Int32) then bnd (f_X11_led N (xs ((v4 + (1 : Int32))).toNatClampNeg) (0 : Int32) M31) (fun r36 M37 => bnd (f_X11_thrown N M37) (fun r39 M40 => (if r39 = r30 then (if r30 = (0 : Int32) then grd (inb (0 : Int32) 1) ((if (lg_cmp (M40 219 ((0 : Int32)).toNatClampNeg).toInt64 (r36).toInt64) = (0 : Int32) then some (true, M40) else some (false, M40))) else some (true, M40)) else some (false, M40)))) else bnd (f_X11_led N (xs ((v4 + (1 : Int32))).toNatClampNeg) (1 : Int32) M31) (fun r46 M47 => bnd (f_X11_thrown N M47) (fun r49 M50 => (if r49 = r30 then (if r30 = (0 : Int32) then grd (inb (0 : Int32) 1) ((if (lg_cmp (M50 219 ((0 : Int32)).toNatClampNeg).toInt64 (r46).toInt64) = (0 : Int32) then some (true, M50) else some (false, M50))) else some (true, M50)) else some (false, M50)))))))))))
set_option maxRecDepth 20000 in
set_option maxHeartbeats 4000000 in
theorem okc_41 {N Ln : Nat} {xs : Nat → Int32} {X : am_X} {l : Launch} (hl : l.stackTraces = false) (hC : am_C X l room_1 cL_law_ RL (some .boolean)) (hs : am_SC X xs Ln) {v4 : Int32} {M M' : Mm} {ce sl : Nat} {Q : State → Prop} (hce : ce + 100 ≤ 601024) (hsl : sl + 1000 ≤ 7293034) (h : f_L_c41 N Ln xs v4 M = some (true, M')) (k : am_V X LY M' (ce + 3) (sl + 18) Q 2644 [some (.ref am_sc), some (.ref 0), some (.ref 208), some (.ref 219), some (.int v4), none, none] []) : am_V X LY M ce sl Q 2405 [some (.ref am_sc), some (.ref 0), some (.ref 208), some (.ref 219), some (.int v4), none, none] [] := by
  unfold f_L_c41 at h
  refine v_aload_n hC dL_law__2405 rfl ?_
  refine v_aload_n hC dL_law__2406 rfl ?_
  refine v_iload hC dL_law__2407 rfl ?_
  refine v_iconst (v := (1 : Int32)) hC dL_law__2409 rfl ?_
  refine v_iadd hC dL_law__2410 ?_
  obtain ⟨g1, h⟩ := grd_some h
  refine v_ssl hC hs (inb_in g1) dL_law__2411 ?_
  refine v_aload_n hC dL_law__2412 rfl ?_
  refine v_iload hC dL_law__2413 rfl ?_
  refine v_iconst (v := (2 : Int32)) hC dL_law__2415 rfl ?_
  refine v_iadd hC dL_law__2416 ?_
  obtain ⟨g2, h⟩ := grd_some h
  refine v_ssl hC hs (inb_in g2) dL_law__2417 ?_
  refine v_if_eq hC 2425 dL_law__2418 rfl (fun c3 => ?_) (fun c3 => ?_)
  · rw [if_pos c3] at h
    refine v_iconst (v := (0 : Int32)) hC dL_law__2425 rfl ?_
    refine v_aload_n hC dL_law__2426 rfl ?_
    obtain ⟨r4, M5, q6, h⟩ := bnd_some h
    refine w_callSH hC [.ref 0, .int (xs ((v4 + (1 : Int32))).toNatClampNeg), .int (0 : Int32), .ref 219] [] (ok_L_led hl q6) mh_L_led aw_1194 rfl (Nat.le_of_ble_eq_true rfl) ⟨by decide, by decide⟩ ⟨by show _ ≤ 601024; omega, by show _ ≤ 7293034; omega⟩ dL_law__2427 ?_
    refine w_istore hC dL_law__2430 (ltk rfl) [some (.ref am_sc), some (.ref 0), some (.ref 208), some (.ref 219), some (.int v4), some (.int r4), none] rfl ?_
    refine v_aload_n hC dL_law__2432 rfl ?_
    refine v_aload_n hC dL_law__2433 rfl ?_
    refine v_iload hC dL_law__2434 rfl ?_
    refine v_iconst (v := (1 : Int32)) hC dL_law__2436 rfl ?_
    refine v_iadd hC dL_law__2437 ?_
    obtain ⟨g7, h⟩ := grd_some h
    refine v_ssl hC hs (inb_in g7) dL_law__2438 ?_
    refine v_aload_n hC dL_law__2439 rfl ?_
    refine v_iload hC dL_law__2440 rfl ?_
    refine v_iconst (v := (2 : Int32)) hC dL_law__2442 rfl ?_
    refine v_iadd hC dL_law__2443 ?_
    obtain ⟨g8, h⟩ := grd_some h
    refine v_ssl hC hs (inb_in g8) dL_law__2444 ?_
    refine v_if_eq hC 2452 dL_law__2445 rfl (fun c9 => ?_) (fun c9 => ?_)
    · rw [if_pos c9] at h
      refine v_iconst (v := (0 : Int32)) hC dL_law__2452 rfl ?_
      obtain ⟨r10, M11, q12, h⟩ := bnd_some h
      refine w_callVi hC [.int (xs ((v4 + (1 : Int32))).toNatClampNeg), .int (0 : Int32)] [] (ok_X11_led q12) mv_X11_led aw_1815 ly_208 rfl (Nat.le_of_ble_eq_true rfl) ⟨by decide, by decide⟩ ⟨by show _ ≤ 601024; omega, by show _ ≤ 7293034; omega⟩ dL_law__2453 ?_
      refine w_istore hC dL_law__2456 (ltk rfl) [some (.ref am_sc), some (.ref 0), some (.ref 208), some (.ref 219), some (.int v4), some (.int r4), some (.int r10)] rfl ?_
      refine v_aload_n hC dL_law__2458 rfl ?_
      obtain ⟨r13, M14, q15, h⟩ := bnd_some h
      refine w_callVi hC [] [] (ok_X11_thrown q15) mv_X11_thrown aw_1221 ly_208 rfl (Nat.le_of_ble_eq_true rfl) ⟨by decide, by decide⟩ ⟨by show _ ≤ 601024; omega, by show _ ≤ 7293034; omega⟩ dL_law__2459 ?_
      refine v_iload hC dL_law__2462 rfl ?_
      refine v_icmp_eq hC 2469 dL_law__2464 rfl (fun c16 => ?_) (fun c16 => ?_)
      · rw [if_pos c16] at h
        refine v_iload hC dL_law__2469 rfl ?_
        refine v_if_ne hC 2486 dL_law__2471 rfl (fun c17 => ?_) (fun c17 => ?_)
        · rw [if_neg c17] at h
          refine v_goto (tg := 2644) hC dL_law__2486 rfl ?_
          refine v_drop [true, true, true, true, true, false, false] [some (.ref am_sc), some (.ref 0), some (.ref 208), some (.ref 219), some (.int v4), none, none] rfl ?_
          cases h
          exact v_widen (k := ce + 3) (n := sl + 18) (by omega) (by omega) k
        · rw [if_pos c17] at h
          refine v_aload_n hC dL_law__2474 rfl ?_
          refine v_iconst (v := (0 : Int32)) hC dL_law__2475 rfl ?_
          obtain ⟨g18, h⟩ := grd_some h
          refine v_lald hC ly_219 (inb_in g18) dL_law__2476 ?_
          refine v_iload hC dL_law__2477 rfl ?_
          refine v_i2l hC dL_law__2479 ?_
          refine v_lcmp hC dL_law__2480 ?_
          refine v_if_eq hC 2486 dL_law__2481 rfl (fun c19 => ?_) (fun c19 => ?_)
          · rw [if_pos c19] at h
            refine v_goto (tg := 2644) hC dL_law__2486 rfl ?_
            refine v_drop [true, true, true, true, true, false, false] [some (.ref am_sc), some (.ref 0), some (.ref 208), some (.ref 219), some (.int v4), none, none] rfl ?_
            cases h
            exact v_widen (k := ce + 3) (n := sl + 18) (by omega) (by omega) k
          · rw [if_neg c19] at h
            cases h
      · rw [if_neg c16] at h
        cases h
    · rw [if_neg c9] at h
      refine v_iconst (v := (1 : Int32)) hC dL_law__2448 rfl ?_
      refine v_goto (tg := 2453) hC dL_law__2449 rfl ?_
      obtain ⟨r20, M21, q22, h⟩ := bnd_some h
      refine w_callVi hC [.int (xs ((v4 + (1 : Int32))).toNatClampNeg), .int (1 : Int32)] [] (ok_X11_led q22) mv_X11_led aw_1815 ly_208 rfl (Nat.le_of_ble_eq_true rfl) ⟨by decide, by decide⟩ ⟨by show _ ≤ 601024; omega, by show _ ≤ 7293034; omega⟩ dL_law__2453 ?_
      refine w_istore hC dL_law__2456 (ltk rfl) [some (.ref am_sc), some (.ref 0), some (.ref 208), some (.ref 219), some (.int v4), some (.int r4), some (.int r20)] rfl ?_
      refine v_aload_n hC dL_law__2458 rfl ?_
      obtain ⟨r23, M24, q25, h⟩ := bnd_some h
      refine w_callVi hC [] [] (ok_X11_thrown q25) mv_X11_thrown aw_1221 ly_208 rfl (Nat.le_of_ble_eq_true rfl) ⟨by decide, by decide⟩ ⟨by show _ ≤ 601024; omega, by show _ ≤ 7293034; omega⟩ dL_law__2459 ?_
      refine v_iload hC dL_law__2462 rfl ?_
      refine v_icmp_eq hC 2469 dL_law__2464 rfl (fun c26 => ?_) (fun c26 => ?_)
      · rw [if_pos c26] at h
        refine v_iload hC dL_law__2469 rfl ?_
        refine v_if_ne hC 2486 dL_law__2471 rfl (fun c27 => ?_) (fun c27 => ?_)
        · rw [if_neg c27] at h
          refine v_goto (tg := 2644) hC dL_law__2486 rfl ?_
          refine v_drop [true, true, true, true, true, false, false] [some (.ref am_sc), some (.ref 0), some (.ref 208), some (.ref 219), some (.int v4), none, none] rfl ?_
          cases h
          exact v_widen (k := ce + 3) (n := sl + 18) (by omega) (by omega) k
        · rw [if_pos c27] at h
          refine v_aload_n hC dL_law__2474 rfl ?_
          refine v_iconst (v := (0 : Int32)) hC dL_law__2475 rfl ?_
          obtain ⟨g28, h⟩ := grd_some h
          refine v_lald hC ly_219 (inb_in g28) dL_law__2476 ?_
          refine v_iload hC dL_law__2477 rfl ?_
          refine v_i2l hC dL_law__2479 ?_
          refine v_lcmp hC dL_law__2480 ?_
          refine v_if_eq hC 2486 dL_law__2481 rfl (fun c29 => ?_) (fun c29 => ?_)
          · rw [if_pos c29] at h
            refine v_goto (tg := 2644) hC dL_law__2486 rfl ?_
            refine v_drop [true, true, true, true, true, false, false] [some (.ref am_sc), some (.ref 0), some (.ref 208), some (.ref 219), some (.int v4), none, none] rfl ?_
            cases h
            exact v_widen (k := ce + 3) (n := sl + 18) (by omega) (by omega) k
          · rw [if_neg c29] at h
            cases h
      · rw [if_neg c26] at h
        cases h
  · rw [if_neg c3] at h
    refine v_iconst (v := (1 : Int32)) hC dL_law__2421 rfl ?_
    refine v_goto (tg := 2426) hC dL_law__2422 rfl ?_
    refine v_aload_n hC dL_law__2426 rfl ?_
    obtain ⟨r30, M31, q32, h⟩ := bnd_some h
    refine w_callSH hC [.ref 0, .int (xs ((v4 + (1 : Int32))).toNatClampNeg), .int (1 : Int32), .ref 219] [] (ok_L_led hl q32) mh_L_led aw_1194 rfl (Nat.le_of_ble_eq_true rfl) ⟨by decide, by decide⟩ ⟨by show _ ≤ 601024; omega, by show _ ≤ 7293034; omega⟩ dL_law__2427 ?_
    refine w_istore hC dL_law__2430 (ltk rfl) [some (.ref am_sc), some (.ref 0), some (.ref 208), some (.ref 219), some (.int v4), some (.int r30), none] rfl ?_
    refine v_aload_n hC dL_law__2432 rfl ?_
    refine v_aload_n hC dL_law__2433 rfl ?_
    refine v_iload hC dL_law__2434 rfl ?_
    refine v_iconst (v := (1 : Int32)) hC dL_law__2436 rfl ?_
    refine v_iadd hC dL_law__2437 ?_
    obtain ⟨g33, h⟩ := grd_some h
    refine v_ssl hC hs (inb_in g33) dL_law__2438 ?_
    refine v_aload_n hC dL_law__2439 rfl ?_
    refine v_iload hC dL_law__2440 rfl ?_
    refine v_iconst (v := (2 : Int32)) hC dL_law__2442 rfl ?_
    refine v_iadd hC dL_law__2443 ?_
    obtain ⟨g34, h⟩ := grd_some h
    refine v_ssl hC hs (inb_in g34) dL_law__2444 ?_
    refine v_if_eq hC 2452 dL_law__2445 rfl (fun c35 => ?_) (fun c35 => ?_)
    · rw [if_pos c35] at h
      refine v_iconst (v := (0 : Int32)) hC dL_law__2452 rfl ?_
      obtain ⟨r36, M37, q38, h⟩ := bnd_some h
      refine w_callVi hC [.int (xs ((v4 + (1 : Int32))).toNatClampNeg), .int (0 : Int32)] [] (ok_X11_led q38) mv_X11_led aw_1815 ly_208 rfl (Nat.le_of_ble_eq_true rfl) ⟨by decide, by decide⟩ ⟨by show _ ≤ 601024; omega, by show _ ≤ 7293034; omega⟩ dL_law__2453 ?_
      refine w_istore hC dL_law__2456 (ltk rfl) [some (.ref am_sc), some (.ref 0), some (.ref 208), some (.ref 219), some (.int v4), some (.int r30), some (.int r36)] rfl ?_
      refine v_aload_n hC dL_law__2458 rfl ?_
      obtain ⟨r39, M40, q41, h⟩ := bnd_some h
      refine w_callVi hC [] [] (ok_X11_thrown q41) mv_X11_thrown aw_1221 ly_208 rfl (Nat.le_of_ble_eq_true rfl) ⟨by decide, by decide⟩ ⟨by show _ ≤ 601024; omega, by show _ ≤ 7293034; omega⟩ dL_law__2459 ?_
      refine v_iload hC dL_law__2462 rfl ?_
      refine v_icmp_eq hC 2469 dL_law__2464 rfl (fun c42 => ?_) (fun c42 => ?_)
      · rw [if_pos c42] at h
        refine v_iload hC dL_law__2469 rfl ?_
        refine v_if_ne hC 2486 dL_law__2471 rfl (fun c43 => ?_) (fun c43 => ?_)
        · rw [if_neg c43] at h
          refine v_goto (tg := 2644) hC dL_law__2486 rfl ?_
          refine v_drop [true, true, true, true, true, false, false] [some (.ref am_sc), some (.ref 0), some (.ref 208), some (.ref 219), some (.int v4), none, none] rfl ?_
          cases h
          exact v_widen (k := ce + 3) (n := sl + 18) (by omega) (by omega) k
        · rw [if_pos c43] at h
          refine v_aload_n hC dL_law__2474 rfl ?_
          refine v_iconst (v := (0 : Int32)) hC dL_law__2475 rfl ?_
          obtain ⟨g44, h⟩ := grd_some h
          refine v_lald hC ly_219 (inb_in g44) dL_law__2476 ?_
          refine v_iload hC dL_law__2477 rfl ?_
          refine v_i2l hC dL_law__2479 ?_
          refine v_lcmp hC dL_law__2480 ?_
          refine v_if_eq hC 2486 dL_law__2481 rfl (fun c45 => ?_) (fun c45 => ?_)
          · rw [if_pos c45] at h
            refine v_goto (tg := 2644) hC dL_law__2486 rfl ?_
            refine v_drop [true, true, true, true, true, false, false] [some (.ref am_sc), some (.ref 0), some (.ref 208), some (.ref 219), some (.int v4), none, none] rfl ?_
            cases h
            exact v_widen (k := ce + 3) (n := sl + 18) (by omega) (by omega) k
          · rw [if_neg c45] at h
            cases h
      · rw [if_neg c42] at h
        cases h
    · rw [if_neg c35] at h
      refine v_iconst (v := (1 : Int32)) hC dL_law__2448 rfl ?_
      refine v_goto (tg := 2453) hC dL_law__2449 rfl ?_
      obtain ⟨r46, M47, q48, h⟩ := bnd_some h
      refine w_callVi hC [.int (xs ((v4 + (1 : Int32))).toNatClampNeg), .int (1 : Int32)] [] (ok_X11_led q48) mv_X11_led aw_1815 ly_208 rfl (Nat.le_of_ble_eq_true rfl) ⟨by decide, by decide⟩ ⟨by show _ ≤ 601024; omega, by show _ ≤ 7293034; omega⟩ dL_law__2453 ?_
      refine w_istore hC dL_law__2456 (ltk rfl) [some (.ref am_sc), some (.ref 0), some (.ref 208), some (.ref 219), some (.int v4), some (.int r30), some (.int r46)] rfl ?_
      refine v_aload_n hC dL_law__2458 rfl ?_
      obtain ⟨r49, M50, q51, h⟩ := bnd_some h
      refine w_callVi hC [] [] (ok_X11_thrown q51) mv_X11_thrown aw_1221 ly_208 rfl (Nat.le_of_ble_eq_true rfl) ⟨by decide, by decide⟩ ⟨by show _ ≤ 601024; omega, by show _ ≤ 7293034; omega⟩ dL_law__2459 ?_
      refine v_iload hC dL_law__2462 rfl ?_
      refine v_icmp_eq hC 2469 dL_law__2464 rfl (fun c52 => ?_) (fun c52 => ?_)
      · rw [if_pos c52] at h
        refine v_iload hC dL_law__2469 rfl ?_
        refine v_if_ne hC 2486 dL_law__2471 rfl (fun c53 => ?_) (fun c53 => ?_)
        · rw [if_neg c53] at h
          refine v_goto (tg := 2644) hC dL_law__2486 rfl ?_
          refine v_drop [true, true, true, true, true, false, false] [some (.ref am_sc), some (.ref 0), some (.ref 208), some (.ref 219), some (.int v4), none, none] rfl ?_
          cases h
          exact v_widen (k := ce + 3) (n := sl + 18) (by omega) (by omega) k
        · rw [if_pos c53] at h
          refine v_aload_n hC dL_law__2474 rfl ?_
          refine v_iconst (v := (0 : Int32)) hC dL_law__2475 rfl ?_
          obtain ⟨g54, h⟩ := grd_some h
          refine v_lald hC ly_219 (inb_in g54) dL_law__2476 ?_
          refine v_iload hC dL_law__2477 rfl ?_
          refine v_i2l hC dL_law__2479 ?_
          refine v_lcmp hC dL_law__2480 ?_
          refine v_if_eq hC 2486 dL_law__2481 rfl (fun c55 => ?_) (fun c55 => ?_)
          · rw [if_pos c55] at h
            refine v_goto (tg := 2644) hC dL_law__2486 rfl ?_
            refine v_drop [true, true, true, true, true, false, false] [some (.ref am_sc), some (.ref 0), some (.ref 208), some (.ref 219), some (.int v4), none, none] rfl ?_
            cases h
            exact v_widen (k := ce + 3) (n := sl + 18) (by omega) (by omega) k
          · rw [if_neg c55] at h
            cases h
      · rw [if_neg c52] at h
        cases h
def f_L_c42 (N Ln : Nat) (xs : Nat → Int32) (v4 : Int32) (M : Mm) : Option (Bool × Mm) :=
  grd (inb (v4 + (1 : Int32)) Ln) (grd (inb (v4 + (2 : Int32)) Ln) (bnd (f_L_log N (xs ((v4 + (1 : Int32))).toNatClampNeg) (xs ((v4 + (2 : Int32))).toNatClampNeg) M) (fun r3 M4 => grd (inb (v4 + (1 : Int32)) Ln) (grd (inb (v4 + (2 : Int32)) Ln) (bnd (f_X11_log N (xs ((v4 + (1 : Int32))).toNatClampNeg) (xs ((v4 + (2 : Int32))).toNatClampNeg) M4) (fun r8 M9 => bnd (f_X11_thrown N M9) (fun r11 M12 => (if r11 = r3 then (if r3 = (0 : Int32) then grd (inb (0 : Int32) 1) ((if (lg_cmp (M12 219 ((0 : Int32)).toNatClampNeg).toInt64 (r8).toInt64) = (0 : Int32) then some (true, M12) else some (false, M12))) else some (true, M12)) else some (false, M12)))))))))
set_option maxRecDepth 20000 in
set_option maxHeartbeats 4000000 in
theorem okc_42 {N Ln : Nat} {xs : Nat → Int32} {X : am_X} {l : Launch} (hl : l.stackTraces = false) (hC : am_C X l room_1 cL_law_ RL (some .boolean)) (hs : am_SC X xs Ln) {v4 : Int32} {M M' : Mm} {ce sl : Nat} {Q : State → Prop} (hce : ce + 100 ≤ 601024) (hsl : sl + 1000 ≤ 7293034) (h : f_L_c42 N Ln xs v4 M = some (true, M')) (k : am_V X LY M' (ce + 3) (sl + 18) Q 2644 [some (.ref am_sc), some (.ref 0), some (.ref 208), some (.ref 219), some (.int v4), none, none] []) : am_V X LY M ce sl Q 2489 [some (.ref am_sc), some (.ref 0), some (.ref 208), some (.ref 219), some (.int v4), none, none] [] := by
  unfold f_L_c42 at h
  refine v_aload_n hC dL_law__2489 rfl ?_
  refine v_aload_n hC dL_law__2490 rfl ?_
  refine v_iload hC dL_law__2491 rfl ?_
  refine v_iconst (v := (1 : Int32)) hC dL_law__2493 rfl ?_
  refine v_iadd hC dL_law__2494 ?_
  obtain ⟨g1, h⟩ := grd_some h
  refine v_ssl hC hs (inb_in g1) dL_law__2495 ?_
  refine v_aload_n hC dL_law__2496 rfl ?_
  refine v_iload hC dL_law__2497 rfl ?_
  refine v_iconst (v := (2 : Int32)) hC dL_law__2499 rfl ?_
  refine v_iadd hC dL_law__2500 ?_
  obtain ⟨g2, h⟩ := grd_some h
  refine v_ssl hC hs (inb_in g2) dL_law__2501 ?_
  refine v_aload_n hC dL_law__2502 rfl ?_
  obtain ⟨r3, M4, q5, h⟩ := bnd_some h
  refine w_callSH hC [.ref 0, .int (xs ((v4 + (1 : Int32))).toNatClampNeg), .int (xs ((v4 + (2 : Int32))).toNatClampNeg), .ref 219] [] (ok_L_log hl q5) mh_L_log aw_1213 rfl (Nat.le_of_ble_eq_true rfl) ⟨by decide, by decide⟩ ⟨by show _ ≤ 601024; omega, by show _ ≤ 7293034; omega⟩ dL_law__2503 ?_
  refine w_istore hC dL_law__2506 (ltk rfl) [some (.ref am_sc), some (.ref 0), some (.ref 208), some (.ref 219), some (.int v4), some (.int r3), none] rfl ?_
  refine v_aload_n hC dL_law__2508 rfl ?_
  refine v_aload_n hC dL_law__2509 rfl ?_
  refine v_iload hC dL_law__2510 rfl ?_
  refine v_iconst (v := (1 : Int32)) hC dL_law__2512 rfl ?_
  refine v_iadd hC dL_law__2513 ?_
  obtain ⟨g6, h⟩ := grd_some h
  refine v_ssl hC hs (inb_in g6) dL_law__2514 ?_
  refine v_aload_n hC dL_law__2515 rfl ?_
  refine v_iload hC dL_law__2516 rfl ?_
  refine v_iconst (v := (2 : Int32)) hC dL_law__2518 rfl ?_
  refine v_iadd hC dL_law__2519 ?_
  obtain ⟨g7, h⟩ := grd_some h
  refine v_ssl hC hs (inb_in g7) dL_law__2520 ?_
  obtain ⟨r8, M9, q10, h⟩ := bnd_some h
  refine w_callVi hC [.int (xs ((v4 + (1 : Int32))).toNatClampNeg), .int (xs ((v4 + (2 : Int32))).toNatClampNeg)] [] (ok_X11_log q10) mv_X11_log aw_1823 ly_208 rfl (Nat.le_of_ble_eq_true rfl) ⟨by decide, by decide⟩ ⟨by show _ ≤ 601024; omega, by show _ ≤ 7293034; omega⟩ dL_law__2521 ?_
  refine w_istore hC dL_law__2524 (ltk rfl) [some (.ref am_sc), some (.ref 0), some (.ref 208), some (.ref 219), some (.int v4), some (.int r3), some (.int r8)] rfl ?_
  refine v_aload_n hC dL_law__2526 rfl ?_
  obtain ⟨r11, M12, q13, h⟩ := bnd_some h
  refine w_callVi hC [] [] (ok_X11_thrown q13) mv_X11_thrown aw_1221 ly_208 rfl (Nat.le_of_ble_eq_true rfl) ⟨by decide, by decide⟩ ⟨by show _ ≤ 601024; omega, by show _ ≤ 7293034; omega⟩ dL_law__2527 ?_
  refine v_iload hC dL_law__2530 rfl ?_
  refine v_icmp_eq hC 2537 dL_law__2532 rfl (fun c14 => ?_) (fun c14 => ?_)
  · rw [if_pos c14] at h
    refine v_iload hC dL_law__2537 rfl ?_
    refine v_if_ne hC 2554 dL_law__2539 rfl (fun c15 => ?_) (fun c15 => ?_)
    · rw [if_neg c15] at h
      refine v_goto (tg := 2644) hC dL_law__2554 rfl ?_
      refine v_drop [true, true, true, true, true, false, false] [some (.ref am_sc), some (.ref 0), some (.ref 208), some (.ref 219), some (.int v4), none, none] rfl ?_
      cases h
      exact v_widen (k := ce + 3) (n := sl + 18) (by omega) (by omega) k
    · rw [if_pos c15] at h
      refine v_aload_n hC dL_law__2542 rfl ?_
      refine v_iconst (v := (0 : Int32)) hC dL_law__2543 rfl ?_
      obtain ⟨g16, h⟩ := grd_some h
      refine v_lald hC ly_219 (inb_in g16) dL_law__2544 ?_
      refine v_iload hC dL_law__2545 rfl ?_
      refine v_i2l hC dL_law__2547 ?_
      refine v_lcmp hC dL_law__2548 ?_
      refine v_if_eq hC 2554 dL_law__2549 rfl (fun c17 => ?_) (fun c17 => ?_)
      · rw [if_pos c17] at h
        refine v_goto (tg := 2644) hC dL_law__2554 rfl ?_
        refine v_drop [true, true, true, true, true, false, false] [some (.ref am_sc), some (.ref 0), some (.ref 208), some (.ref 219), some (.int v4), none, none] rfl ?_
        cases h
        exact v_widen (k := ce + 3) (n := sl + 18) (by omega) (by omega) k
      · rw [if_neg c17] at h
        cases h
  · rw [if_neg c14] at h
    cases h
def f_L_c43 (N Ln : Nat) (xs : Nat → Int32) (v4 : Int32) (M : Mm) : Option (Bool × Mm) :=
  grd (inb (v4 + (1 : Int32)) Ln) (bnd (f_X10_seed N (xs ((v4 + (1 : Int32))).toNatClampNeg) M) (fun r2 M3 => grd (inb (v4 + (1 : Int32)) Ln) (bnd (f_X11_seed N (xs ((v4 + (1 : Int32))).toNatClampNeg) M3) (fun r6 M7 => (if r2 = r6 then some (true, M7) else some (false, M7))))))
set_option maxRecDepth 20000 in
set_option maxHeartbeats 4000000 in
theorem okc_43 {N Ln : Nat} {xs : Nat → Int32} {X : am_X} {l : Launch} (hl : l.stackTraces = false) (hC : am_C X l room_1 cL_law_ RL (some .boolean)) (hs : am_SC X xs Ln) {v4 : Int32} {M M' : Mm} {ce sl : Nat} {Q : State → Prop} (hce : ce + 100 ≤ 601024) (hsl : sl + 1000 ≤ 7293034) (h : f_L_c43 N Ln xs v4 M = some (true, M')) (k : am_V X LY M' (ce + 3) (sl + 18) Q 2644 [some (.ref am_sc), some (.ref 0), some (.ref 208), some (.ref 219), some (.int v4), none, none] []) : am_V X LY M ce sl Q 2557 [some (.ref am_sc), some (.ref 0), some (.ref 208), some (.ref 219), some (.int v4), none, none] [] := by
  unfold f_L_c43 at h
  refine v_aload_n hC dL_law__2557 rfl ?_
  refine v_aload_n hC dL_law__2558 rfl ?_
  refine v_iload hC dL_law__2559 rfl ?_
  refine v_iconst (v := (1 : Int32)) hC dL_law__2561 rfl ?_
  refine v_iadd hC dL_law__2562 ?_
  obtain ⟨g1, h⟩ := grd_some h
  refine v_ssl hC hs (inb_in g1) dL_law__2563 ?_
  obtain ⟨r2, M3, q4, h⟩ := bnd_some h
  refine w_callVi hC [.int (xs ((v4 + (1 : Int32))).toNatClampNeg)] [] (ok_X10_seed q4) mv_X10_seed aw_536 ly_0 rfl (Nat.le_of_ble_eq_true rfl) ⟨by decide, by decide⟩ ⟨by show _ ≤ 601024; omega, by show _ ≤ 7293034; omega⟩ dL_law__2564 ?_
  refine v_aload_n hC dL_law__2567 rfl ?_
  refine v_aload_n hC dL_law__2568 rfl ?_
  refine v_iload hC dL_law__2569 rfl ?_
  refine v_iconst (v := (1 : Int32)) hC dL_law__2571 rfl ?_
  refine v_iadd hC dL_law__2572 ?_
  obtain ⟨g5, h⟩ := grd_some h
  refine v_ssl hC hs (inb_in g5) dL_law__2573 ?_
  obtain ⟨r6, M7, q8, h⟩ := bnd_some h
  refine w_callVi hC [.int (xs ((v4 + (1 : Int32))).toNatClampNeg)] [.int r2] (ok_X11_seed q8) mv_X11_seed aw_1827 ly_208 rfl (Nat.le_of_ble_eq_true rfl) ⟨by decide, by decide⟩ ⟨by show _ ≤ 601024; omega, by show _ ≤ 7293034; omega⟩ dL_law__2574 ?_
  refine v_icmp_eq hC 2644 dL_law__2577 rfl (fun c9 => ?_) (fun c9 => ?_)
  · rw [if_pos c9] at h
    cases h
    exact v_widen (k := ce + 3) (n := sl + 18) (by omega) (by omega) k
  · rw [if_neg c9] at h
    cases h
def f_L_c44 (N Ln : Nat) (xs : Nat → Int32) (v4 : Int32) (M : Mm) : Option (Bool × Mm) :=
  bnd (f_X10_undo N M) (fun r1 M2 => bnd (f_X11_undo N M2) (fun r4 M5 => (if r1 = r4 then some (true, M5) else some (false, M5))))
set_option maxRecDepth 20000 in
set_option maxHeartbeats 4000000 in
theorem okc_44 {N Ln : Nat} {xs : Nat → Int32} {X : am_X} {l : Launch} (hl : l.stackTraces = false) (hC : am_C X l room_1 cL_law_ RL (some .boolean)) (hs : am_SC X xs Ln) {v4 : Int32} {M M' : Mm} {ce sl : Nat} {Q : State → Prop} (hce : ce + 100 ≤ 601024) (hsl : sl + 1000 ≤ 7293034) (h : f_L_c44 N Ln xs v4 M = some (true, M')) (k : am_V X LY M' (ce + 3) (sl + 18) Q 2644 [some (.ref am_sc), some (.ref 0), some (.ref 208), some (.ref 219), some (.int v4), none, none] []) : am_V X LY M ce sl Q 2582 [some (.ref am_sc), some (.ref 0), some (.ref 208), some (.ref 219), some (.int v4), none, none] [] := by
  unfold f_L_c44 at h
  refine v_aload_n hC dL_law__2582 rfl ?_
  obtain ⟨r1, M2, q3, h⟩ := bnd_some h
  refine w_callVi hC [] [] (ok_X10_undo q3) mv_X10_undo aw_540 ly_0 rfl (Nat.le_of_ble_eq_true rfl) ⟨by decide, by decide⟩ ⟨by show _ ≤ 601024; omega, by show _ ≤ 7293034; omega⟩ dL_law__2583 ?_
  refine v_aload_n hC dL_law__2586 rfl ?_
  obtain ⟨r4, M5, q6, h⟩ := bnd_some h
  refine w_callVi hC [] [.int r1] (ok_X11_undo q6) mv_X11_undo aw_1303 ly_208 rfl (Nat.le_of_ble_eq_true rfl) ⟨by decide, by decide⟩ ⟨by show _ ≤ 601024; omega, by show _ ≤ 7293034; omega⟩ dL_law__2587 ?_
  refine v_icmp_eq hC 2644 dL_law__2590 rfl (fun c7 => ?_) (fun c7 => ?_)
  · rw [if_pos c7] at h
    cases h
    exact v_widen (k := ce + 3) (n := sl + 18) (by omega) (by omega) k
  · rw [if_neg c7] at h
    cases h
def f_L_c45 (N Ln : Nat) (xs : Nat → Int32) (v4 : Int32) (M : Mm) : Option (Bool × Mm) :=
  bnd (f_X10_image N M) (fun r1 M2 => bnd (f_X11_image N M2) (fun r4 M5 => some (true, M5)))
set_option maxRecDepth 20000 in
set_option maxHeartbeats 4000000 in
theorem okc_45 {N Ln : Nat} {xs : Nat → Int32} {X : am_X} {l : Launch} (hl : l.stackTraces = false) (hC : am_C X l room_1 cL_law_ RL (some .boolean)) (hs : am_SC X xs Ln) {v4 : Int32} {M M' : Mm} {ce sl : Nat} {Q : State → Prop} (hce : ce + 100 ≤ 601024) (hsl : sl + 1000 ≤ 7293034) (h : f_L_c45 N Ln xs v4 M = some (true, M')) (k : am_V X LY M' (ce + 3) (sl + 18) Q 2644 [some (.ref am_sc), some (.ref 0), some (.ref 208), some (.ref 219), some (.int v4), none, none] []) : am_V X LY M ce sl Q 2595 [some (.ref am_sc), some (.ref 0), some (.ref 208), some (.ref 219), some (.int v4), none, none] [] := by
  unfold f_L_c45 at h
  refine v_aload_n hC dL_law__2595 rfl ?_
  obtain ⟨r1, M2, q3, h⟩ := bnd_some h
  refine w_callVv hC [] [] (ok_X10_image q3) mv_X10_image aw_554 ly_0 rfl (Nat.le_of_ble_eq_true rfl) ⟨by decide, by decide⟩ ⟨by show _ ≤ 601024; omega, by show _ ≤ 7293034; omega⟩ dL_law__2596 ?_
  refine v_aload_n hC dL_law__2599 rfl ?_
  obtain ⟨r4, M5, q6, h⟩ := bnd_some h
  refine w_callVv hC [] [] (ok_X11_image q6) mv_X11_image aw_1295 ly_208 rfl (Nat.le_of_ble_eq_true rfl) ⟨by decide, by decide⟩ ⟨by show _ ≤ 601024; omega, by show _ ≤ 7293034; omega⟩ dL_law__2600 ?_
  refine v_goto (tg := 2644) hC dL_law__2603 rfl ?_
  cases h
  exact v_widen (k := ce + 3) (n := sl + 18) (by omega) (by omega) k
def f_L_c46 (N Ln : Nat) (xs : Nat → Int32) (v4 : Int32) (M : Mm) : Option (Bool × Mm) :=
  bnd (f_X10_back N M) (fun r1 M2 => bnd (f_X11_back N M2) (fun r4 M5 => (if r1 = r4 then some (true, M5) else some (false, M5))))
set_option maxRecDepth 20000 in
set_option maxHeartbeats 4000000 in
theorem okc_46 {N Ln : Nat} {xs : Nat → Int32} {X : am_X} {l : Launch} (hl : l.stackTraces = false) (hC : am_C X l room_1 cL_law_ RL (some .boolean)) (hs : am_SC X xs Ln) {v4 : Int32} {M M' : Mm} {ce sl : Nat} {Q : State → Prop} (hce : ce + 100 ≤ 601024) (hsl : sl + 1000 ≤ 7293034) (h : f_L_c46 N Ln xs v4 M = some (true, M')) (k : am_V X LY M' (ce + 3) (sl + 18) Q 2644 [some (.ref am_sc), some (.ref 0), some (.ref 208), some (.ref 219), some (.int v4), none, none] []) : am_V X LY M ce sl Q 2606 [some (.ref am_sc), some (.ref 0), some (.ref 208), some (.ref 219), some (.int v4), none, none] [] := by
  unfold f_L_c46 at h
  refine v_aload_n hC dL_law__2606 rfl ?_
  obtain ⟨r1, M2, q3, h⟩ := bnd_some h
  refine w_callVi hC [] [] (ok_X10_back q3) mv_X10_back aw_567 ly_0 rfl (Nat.le_of_ble_eq_true rfl) ⟨by decide, by decide⟩ ⟨by show _ ≤ 601024; omega, by show _ ≤ 7293034; omega⟩ dL_law__2607 ?_
  refine v_aload_n hC dL_law__2610 rfl ?_
  obtain ⟨r4, M5, q6, h⟩ := bnd_some h
  refine w_callVi hC [] [.int r1] (ok_X11_back q6) mv_X11_back aw_1299 ly_208 rfl (Nat.le_of_ble_eq_true rfl) ⟨by decide, by decide⟩ ⟨by show _ ≤ 601024; omega, by show _ ≤ 7293034; omega⟩ dL_law__2611 ?_
  refine v_icmp_eq hC 2644 dL_law__2614 rfl (fun c7 => ?_) (fun c7 => ?_)
  · rw [if_pos c7] at h
    cases h
    exact v_widen (k := ce + 3) (n := sl + 18) (by omega) (by omega) k
  · rw [if_neg c7] at h
    cases h
def f_L_c47 (N Ln : Nat) (xs : Nat → Int32) (v4 : Int32) (M : Mm) : Option (Bool × Mm) :=
  grd (inb (v4 + (1 : Int32)) Ln) (bnd (f_X10_count N (xs ((v4 + (1 : Int32))).toNatClampNeg) M) (fun r2 M3 => grd (inb (v4 + (1 : Int32)) Ln) (bnd (f_X11_count N (xs ((v4 + (1 : Int32))).toNatClampNeg) M3) (fun r6 M7 => (if r2 = r6 then some (true, M7) else some (false, M7))))))
set_option maxRecDepth 20000 in
set_option maxHeartbeats 4000000 in
theorem okc_47 {N Ln : Nat} {xs : Nat → Int32} {X : am_X} {l : Launch} (hl : l.stackTraces = false) (hC : am_C X l room_1 cL_law_ RL (some .boolean)) (hs : am_SC X xs Ln) {v4 : Int32} {M M' : Mm} {ce sl : Nat} {Q : State → Prop} (hce : ce + 100 ≤ 601024) (hsl : sl + 1000 ≤ 7293034) (h : f_L_c47 N Ln xs v4 M = some (true, M')) (k : am_V X LY M' (ce + 3) (sl + 18) Q 2644 [some (.ref am_sc), some (.ref 0), some (.ref 208), some (.ref 219), some (.int v4), none, none] []) : am_V X LY M ce sl Q 2619 [some (.ref am_sc), some (.ref 0), some (.ref 208), some (.ref 219), some (.int v4), none, none] [] := by
  unfold f_L_c47 at h
  refine v_aload_n hC dL_law__2619 rfl ?_
  refine v_aload_n hC dL_law__2620 rfl ?_
  refine v_iload hC dL_law__2621 rfl ?_
  refine v_iconst (v := (1 : Int32)) hC dL_law__2623 rfl ?_
  refine v_iadd hC dL_law__2624 ?_
  obtain ⟨g1, h⟩ := grd_some h
  refine v_ssl hC hs (inb_in g1) dL_law__2625 ?_
  obtain ⟨r2, M3, q4, h⟩ := bnd_some h
  refine w_callVi hC [.int (xs ((v4 + (1 : Int32))).toNatClampNeg)] [] (ok_X10_count q4) mv_X10_count aw_571 ly_0 rfl (Nat.le_of_ble_eq_true rfl) ⟨by decide, by decide⟩ ⟨by show _ ≤ 601024; omega, by show _ ≤ 7293034; omega⟩ dL_law__2626 ?_
  refine v_aload_n hC dL_law__2629 rfl ?_
  refine v_aload_n hC dL_law__2630 rfl ?_
  refine v_iload hC dL_law__2631 rfl ?_
  refine v_iconst (v := (1 : Int32)) hC dL_law__2633 rfl ?_
  refine v_iadd hC dL_law__2634 ?_
  obtain ⟨g5, h⟩ := grd_some h
  refine v_ssl hC hs (inb_in g5) dL_law__2635 ?_
  obtain ⟨r6, M7, q8, h⟩ := bnd_some h
  refine w_callVi hC [.int (xs ((v4 + (1 : Int32))).toNatClampNeg)] [.int r2] (ok_X11_count q8) mv_X11_count aw_1831 ly_208 rfl (Nat.le_of_ble_eq_true rfl) ⟨by decide, by decide⟩ ⟨by show _ ≤ 601024; omega, by show _ ≤ 7293034; omega⟩ dL_law__2636 ?_
  refine v_icmp_eq hC 2644 dL_law__2639 rfl (fun c9 => ?_) (fun c9 => ?_)
  · rw [if_pos c9] at h
    cases h
    exact v_widen (k := ce + 3) (n := sl + 18) (by omega) (by omega) k
  · rw [if_neg c9] at h
    cases h
