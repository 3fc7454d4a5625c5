/-! Dispatch: each number of group 3, and of the reference's single. -/
theorem dg_48 (py : Int32) (po : Int32) (cb : Nat → Int32) (ga : Int32) (gb : Int32) (gd : Int32) (gc : Int32) (gx : Int32) (gy : Int32) (gu : Int32) (gs : Int32) (gp : Int32) : tc_P_doGroup3 48 py po cb ga gb gd gc gx gy gu gs gp = ((tc_P_loadAddress (1 : Int32) py po cb ga gb gd gc gx gy gu gs gp).bind fun z18 => some (z18.1, z18.2.1, cb, z18.2.2.1, z18.2.2.2.1, z18.2.2.2.2.1, z18.2.2.2.2.2.1, z18.2.2.2.2.2.2.1, z18.2.2.2.2.2.2.2.1, z18.2.2.2.2.2.2.2.2.1, z18.2.2.2.2.2.2.2.2.2.1, z18.2.2.2.2.2.2.2.2.2.2)) := by
  unfold tc_P_doGroup3
  rw [if_pos rfl]
theorem dg_49 (py : Int32) (po : Int32) (cb : Nat → Int32) (ga : Int32) (gb : Int32) (gd : Int32) (gc : Int32) (gx : Int32) (gy : Int32) (gu : Int32) (gs : Int32) (gp : Int32) : tc_P_doGroup3 49 py po cb ga gb gd gc gx gy gu gs gp = ((tc_P_loadAddress (2 : Int32) py po cb ga gb gd gc gx gy gu gs gp).bind fun z20 => some (z20.1, z20.2.1, cb, z20.2.2.1, z20.2.2.2.1, z20.2.2.2.2.1, z20.2.2.2.2.2.1, z20.2.2.2.2.2.2.1, z20.2.2.2.2.2.2.2.1, z20.2.2.2.2.2.2.2.2.1, z20.2.2.2.2.2.2.2.2.2.1, z20.2.2.2.2.2.2.2.2.2.2)) := by
  unfold tc_P_doGroup3
  rw [if_neg (by decide), if_pos rfl]
theorem dg_50 (py : Int32) (po : Int32) (cb : Nat → Int32) (ga : Int32) (gb : Int32) (gd : Int32) (gc : Int32) (gx : Int32) (gy : Int32) (gu : Int32) (gs : Int32) (gp : Int32) : tc_P_doGroup3 50 py po cb ga gb gd gc gx gy gu gs gp = ((tc_P_loadAddress (4 : Int32) py po cb ga gb gd gc gx gy gu gs gp).bind fun z22 => some (z22.1, z22.2.1, cb, z22.2.2.1, z22.2.2.2.1, z22.2.2.2.2.1, z22.2.2.2.2.2.1, z22.2.2.2.2.2.2.1, z22.2.2.2.2.2.2.2.1, z22.2.2.2.2.2.2.2.2.1, z22.2.2.2.2.2.2.2.2.2.1, z22.2.2.2.2.2.2.2.2.2.2)) := by
  unfold tc_P_doGroup3
  rw [if_neg (by decide), if_neg (by decide), if_pos rfl]
theorem dg_51 (py : Int32) (po : Int32) (cb : Nat → Int32) (ga : Int32) (gb : Int32) (gd : Int32) (gc : Int32) (gx : Int32) (gy : Int32) (gu : Int32) (gs : Int32) (gp : Int32) : tc_P_doGroup3 51 py po cb ga gb gd gc gx gy gu gs gp = ((tc_P_loadAddress (3 : Int32) py po cb ga gb gd gc gx gy gu gs gp).bind fun z24 => some (z24.1, z24.2.1, cb, z24.2.2.1, z24.2.2.2.1, z24.2.2.2.2.1, z24.2.2.2.2.2.1, z24.2.2.2.2.2.2.1, z24.2.2.2.2.2.2.2.1, z24.2.2.2.2.2.2.2.2.1, z24.2.2.2.2.2.2.2.2.2.1, z24.2.2.2.2.2.2.2.2.2.2)) := by
  unfold tc_P_doGroup3
  rw [if_neg (by decide), if_neg (by decide), if_neg (by decide), if_pos rfl]
theorem dg_52 (py : Int32) (po : Int32) (cb : Nat → Int32) (ga : Int32) (gb : Int32) (gd : Int32) (gc : Int32) (gx : Int32) (gy : Int32) (gu : Int32) (gs : Int32) (gp : Int32) : tc_P_doGroup3 52 py po cb ga gb gd gc gx gy gu gs gp = ((tc_P_fetch (1 : Int32) py cb gp).bind fun z26 => (tc_P_push (4 : Int32) z26.1 z26.2.1 cb ga gb gd gc gx gy gu gs z26.2.2).bind fun z27 => some (z27.1, po, z27.2.1, z27.2.2.1, z27.2.2.2.1, z27.2.2.2.2.1, z27.2.2.2.2.2.1, z27.2.2.2.2.2.2.1, z27.2.2.2.2.2.2.2.1, z27.2.2.2.2.2.2.2.2.1, z27.2.2.2.2.2.2.2.2.2.1, z27.2.2.2.2.2.2.2.2.2.2)) := by
  unfold tc_P_doGroup3
  rw [if_neg (by decide), if_neg (by decide), if_neg (by decide), if_neg (by decide), if_pos rfl]
theorem dg_53 (py : Int32) (po : Int32) (cb : Nat → Int32) (ga : Int32) (gb : Int32) (gd : Int32) (gc : Int32) (gx : Int32) (gy : Int32) (gu : Int32) (gs : Int32) (gp : Int32) : tc_P_doGroup3 53 py po cb ga gb gd gc gx gy gu gs gp = ((tc_P_fetch (1 : Int32) py cb gp).bind fun z29 => (tc_P_pull (4 : Int32) z29.1 z29.2.1 cb ga gb gd gc gx gy gu gs z29.2.2).bind fun z30 => some (z30.1, po, cb, z30.2.1, z30.2.2.1, z30.2.2.2.1, z30.2.2.2.2.1, z30.2.2.2.2.2.1, z30.2.2.2.2.2.2.1, z30.2.2.2.2.2.2.2.1, z30.2.2.2.2.2.2.2.2.1, z30.2.2.2.2.2.2.2.2.2)) := by
  unfold tc_P_doGroup3
  rw [if_neg (by decide), if_neg (by decide), if_neg (by decide), if_neg (by decide), if_neg (by decide), if_pos rfl]
theorem dg_54 (py : Int32) (po : Int32) (cb : Nat → Int32) (ga : Int32) (gb : Int32) (gd : Int32) (gc : Int32) (gx : Int32) (gy : Int32) (gu : Int32) (gs : Int32) (gp : Int32) : tc_P_doGroup3 54 py po cb ga gb gd gc gx gy gu gs gp = ((tc_P_fetch (1 : Int32) py cb gp).bind fun z32 => (tc_P_push (3 : Int32) z32.1 z32.2.1 cb ga gb gd gc gx gy gu gs z32.2.2).bind fun z33 => some (z33.1, po, z33.2.1, z33.2.2.1, z33.2.2.2.1, z33.2.2.2.2.1, z33.2.2.2.2.2.1, z33.2.2.2.2.2.2.1, z33.2.2.2.2.2.2.2.1, z33.2.2.2.2.2.2.2.2.1, z33.2.2.2.2.2.2.2.2.2.1, z33.2.2.2.2.2.2.2.2.2.2)) := by
  unfold tc_P_doGroup3
  rw [if_neg (by decide), if_neg (by decide), if_neg (by decide), if_neg (by decide), if_neg (by decide), if_neg (by decide), if_pos rfl]
theorem dg_55 (py : Int32) (po : Int32) (cb : Nat → Int32) (ga : Int32) (gb : Int32) (gd : Int32) (gc : Int32) (gx : Int32) (gy : Int32) (gu : Int32) (gs : Int32) (gp : Int32) : tc_P_doGroup3 55 py po cb ga gb gd gc gx gy gu gs gp = ((tc_P_fetch (1 : Int32) py cb gp).bind fun z35 => (tc_P_pull (3 : Int32) z35.1 z35.2.1 cb ga gb gd gc gx gy gu gs z35.2.2).bind fun z36 => some (z36.1, po, cb, z36.2.1, z36.2.2.1, z36.2.2.2.1, z36.2.2.2.2.1, z36.2.2.2.2.2.1, z36.2.2.2.2.2.2.1, z36.2.2.2.2.2.2.2.1, z36.2.2.2.2.2.2.2.2.1, z36.2.2.2.2.2.2.2.2.2)) := by
  unfold tc_P_doGroup3
  rw [if_neg (by decide), if_neg (by decide), if_neg (by decide), if_neg (by decide), if_neg (by decide), if_neg (by decide), if_neg (by decide), if_pos rfl]
theorem dg_56 (py : Int32) (po : Int32) (cb : Nat → Int32) (ga : Int32) (gb : Int32) (gd : Int32) (gc : Int32) (gx : Int32) (gy : Int32) (gu : Int32) (gs : Int32) (gp : Int32) : tc_P_doGroup3 56 py po cb ga gb gd gc gx gy gu gs gp = (tc_P_doGroup3_j223 py po cb ga gb gd gc gx gy gu gs gp) := by
  unfold tc_P_doGroup3
  rw [if_neg (by decide), if_neg (by decide), if_neg (by decide), if_neg (by decide), if_neg (by decide), if_neg (by decide), if_neg (by decide), if_neg (by decide), if_pos rfl]
theorem dg_57 (py : Int32) (po : Int32) (cb : Nat → Int32) (ga : Int32) (gb : Int32) (gd : Int32) (gc : Int32) (gx : Int32) (gy : Int32) (gu : Int32) (gs : Int32) (gp : Int32) : tc_P_doGroup3 57 py po cb ga gb gd gc gx gy gu gs gp = ((tc_P_pull (4 : Int32) (128 : Int32) py cb ga gb gd gc gx gy gu gs gp).bind fun z39 => some (z39.1, po, cb, z39.2.1, z39.2.2.1, z39.2.2.2.1, z39.2.2.2.2.1, z39.2.2.2.2.2.1, z39.2.2.2.2.2.2.1, z39.2.2.2.2.2.2.2.1, z39.2.2.2.2.2.2.2.2.1, z39.2.2.2.2.2.2.2.2.2)) := by
  unfold tc_P_doGroup3
  rw [if_neg (by decide), if_neg (by decide), if_neg (by decide), if_neg (by decide), if_neg (by decide), if_neg (by decide), if_neg (by decide), if_neg (by decide), if_neg (by decide), if_pos rfl]
theorem dg_58 (py : Int32) (po : Int32) (cb : Nat → Int32) (ga : Int32) (gb : Int32) (gd : Int32) (gc : Int32) (gx : Int32) (gy : Int32) (gu : Int32) (gs : Int32) (gp : Int32) : tc_P_doGroup3 58 py po cb ga gb gd gc gx gy gu gs gp = ((tc_G_set (1 : Int32) (gx + gb) ga gb gd gc gx gy gu gs gp).bind fun z41 => some (py, po, cb, z41.1, z41.2.1, z41.2.2.1, z41.2.2.2.1, z41.2.2.2.2.1, z41.2.2.2.2.2.1, z41.2.2.2.2.2.2.1, z41.2.2.2.2.2.2.2.1, z41.2.2.2.2.2.2.2.2)) := by
  unfold tc_P_doGroup3
  rw [if_neg (by decide), if_neg (by decide), if_neg (by decide), if_neg (by decide), if_neg (by decide), if_neg (by decide), if_neg (by decide), if_neg (by decide), if_neg (by decide), if_neg (by decide), if_pos rfl]
theorem dg_59 (py : Int32) (po : Int32) (cb : Nat → Int32) (ga : Int32) (gb : Int32) (gd : Int32) (gc : Int32) (gx : Int32) (gy : Int32) (gu : Int32) (gs : Int32) (gp : Int32) : tc_P_doGroup3 59 py po cb ga gb gd gc gx gy gu gs gp = (tc_P_doGroup3_j223 py po cb ga gb gd gc gx gy gu gs gp) := by
  unfold tc_P_doGroup3
  rw [if_neg (by decide), if_neg (by decide), if_neg (by decide), if_neg (by decide), if_neg (by decide), if_neg (by decide), if_neg (by decide), if_neg (by decide), if_neg (by decide), if_neg (by decide), if_neg (by decide), if_pos rfl]
theorem dg_60 (py : Int32) (po : Int32) (cb : Nat → Int32) (ga : Int32) (gb : Int32) (gd : Int32) (gc : Int32) (gx : Int32) (gy : Int32) (gu : Int32) (gs : Int32) (gp : Int32) : tc_P_doGroup3 60 py po cb ga gb gd gc gx gy gu gs gp = (tc_P_doGroup3_j223 py po cb ga gb gd gc gx gy gu gs gp) := by
  unfold tc_P_doGroup3
  rw [if_neg (by decide), if_neg (by decide), if_neg (by decide), if_neg (by decide), if_neg (by decide), if_neg (by decide), if_neg (by decide), if_neg (by decide), if_neg (by decide), if_neg (by decide), if_neg (by decide), if_neg (by decide), if_pos rfl]
theorem dg_61 (py : Int32) (po : Int32) (cb : Nat → Int32) (ga : Int32) (gb : Int32) (gd : Int32) (gc : Int32) (gx : Int32) (gy : Int32) (gu : Int32) (gs : Int32) (gp : Int32) : tc_P_doGroup3 61 py po cb ga gb gd gc gx gy gu gs gp = ((tc_C_multiply ga gb gd gc gx gy gu gs gp).bind fun z45 => some (py, po, cb, z45.1, z45.2.1, z45.2.2.1, z45.2.2.2.1, z45.2.2.2.2.1, z45.2.2.2.2.2.1, z45.2.2.2.2.2.2.1, z45.2.2.2.2.2.2.2.1, z45.2.2.2.2.2.2.2.2)) := by
  unfold tc_P_doGroup3
  rw [if_neg (by decide), if_neg (by decide), if_neg (by decide), if_neg (by decide), if_neg (by decide), if_neg (by decide), if_neg (by decide), if_neg (by decide), if_neg (by decide), if_neg (by decide), if_neg (by decide), if_neg (by decide), if_neg (by decide), if_pos rfl]
theorem dg_62 (py : Int32) (po : Int32) (cb : Nat → Int32) (ga : Int32) (gb : Int32) (gd : Int32) (gc : Int32) (gx : Int32) (gy : Int32) (gu : Int32) (gs : Int32) (gp : Int32) : tc_P_doGroup3 62 py po cb ga gb gd gc gx gy gu gs gp = (tc_P_doGroup3_j223 py po cb ga gb gd gc gx gy gu gs gp) := by
  unfold tc_P_doGroup3
  rw [if_neg (by decide), if_neg (by decide), if_neg (by decide), if_neg (by decide), if_neg (by decide), if_neg (by decide), if_neg (by decide), if_neg (by decide), if_neg (by decide), if_neg (by decide), if_neg (by decide), if_neg (by decide), if_neg (by decide), if_neg (by decide), if_pos rfl]
theorem dg_63 (py : Int32) (po : Int32) (cb : Nat → Int32) (ga : Int32) (gb : Int32) (gd : Int32) (gc : Int32) (gx : Int32) (gy : Int32) (gu : Int32) (gs : Int32) (gp : Int32) : tc_P_doGroup3 63 py po cb ga gb gd gc gx gy gu gs gp = ((tc_P_fetch (1 : Int32) py cb gp).bind fun z48 => some (z48.2.1, z48.1, cb, ga, gb, gd, gc, gx, gy, gu, gs, z48.2.2)) := by
  unfold tc_P_doGroup3
  rw [if_neg (by decide), if_neg (by decide), if_neg (by decide), if_neg (by decide), if_neg (by decide), if_neg (by decide), if_neg (by decide), if_neg (by decide), if_neg (by decide), if_neg (by decide), if_neg (by decide), if_neg (by decide), if_neg (by decide), if_neg (by decide), if_neg (by decide), if_pos rfl]
theorem sl_52 (me : Nat → Int32) (rg : Nat → Int32) (so : Nat → Int32) (sv : Nat → Int32) (tl : Nat → Int32) (su : Nat → Int32) (qu : Nat → Int32) (wa : Int32) (ru : Int32) (sp : Int32) (iv : Bool) : mo_single 52 me rg so sv tl su qu wa ru sp iv = ((mo_many 52 me rg sp).bind fun z32 => some (z32.1, z32.2.1, so, sv, tl, su, qu, wa, ru, z32.2.2, iv)) := by
  unfold mo_single
  rw [if_neg (by decide), if_neg (by decide), if_neg (by decide), if_neg (by decide), if_neg (by decide), if_neg (by decide), if_neg (by decide), if_pos (by decide)]
  unfold mo_single_j203
  rw [if_neg (by decide), if_neg (by decide)]
theorem sl_53 (me : Nat → Int32) (rg : Nat → Int32) (so : Nat → Int32) (sv : Nat → Int32) (tl : Nat → Int32) (su : Nat → Int32) (qu : Nat → Int32) (wa : Int32) (ru : Int32) (sp : Int32) (iv : Bool) : mo_single 53 me rg so sv tl su qu wa ru sp iv = ((mo_many 53 me rg sp).bind fun z32 => some (z32.1, z32.2.1, so, sv, tl, su, qu, wa, ru, z32.2.2, iv)) := by
  unfold mo_single
  rw [if_neg (by decide), if_neg (by decide), if_neg (by decide), if_neg (by decide), if_neg (by decide), if_neg (by decide), if_neg (by decide), if_pos (by decide)]
  unfold mo_single_j203
  rw [if_neg (by decide), if_neg (by decide)]
theorem sl_54 (me : Nat → Int32) (rg : Nat → Int32) (so : Nat → Int32) (sv : Nat → Int32) (tl : Nat → Int32) (su : Nat → Int32) (qu : Nat → Int32) (wa : Int32) (ru : Int32) (sp : Int32) (iv : Bool) : mo_single 54 me rg so sv tl su qu wa ru sp iv = ((mo_many 54 me rg sp).bind fun z32 => some (z32.1, z32.2.1, so, sv, tl, su, qu, wa, ru, z32.2.2, iv)) := by
  unfold mo_single
  rw [if_neg (by decide), if_neg (by decide), if_neg (by decide), if_neg (by decide), if_neg (by decide), if_neg (by decide), if_neg (by decide), if_pos (by decide)]
  unfold mo_single_j203
  rw [if_neg (by decide), if_neg (by decide)]
theorem sl_55 (me : Nat → Int32) (rg : Nat → Int32) (so : Nat → Int32) (sv : Nat → Int32) (tl : Nat → Int32) (su : Nat → Int32) (qu : Nat → Int32) (wa : Int32) (ru : Int32) (sp : Int32) (iv : Bool) : mo_single 55 me rg so sv tl su qu wa ru sp iv = ((mo_many 55 me rg sp).bind fun z32 => some (z32.1, z32.2.1, so, sv, tl, su, qu, wa, ru, z32.2.2, iv)) := by
  unfold mo_single
  rw [if_neg (by decide), if_neg (by decide), if_neg (by decide), if_neg (by decide), if_neg (by decide), if_neg (by decide), if_neg (by decide), if_pos (by decide)]
  unfold mo_single_j203
  rw [if_neg (by decide), if_neg (by decide)]
theorem sl_56 (me : Nat → Int32) (rg : Nat → Int32) (so : Nat → Int32) (sv : Nat → Int32) (tl : Nat → Int32) (su : Nat → Int32) (qu : Nat → Int32) (wa : Int32) (ru : Int32) (sp : Int32) (iv : Bool) : mo_single 56 me rg so sv tl su qu wa ru sp iv = mo_single_j223 56 me rg so sv tl su qu wa ru sp iv := by
  unfold mo_single
  rw [if_neg (by decide), if_neg (by decide), if_neg (by decide), if_neg (by decide), if_neg (by decide), if_neg (by decide), if_neg (by decide), if_pos (by decide)]
  unfold mo_single_j203
  rw [if_neg (by decide), if_pos (by decide)]
theorem sl_57 (me : Nat → Int32) (rg : Nat → Int32) (so : Nat → Int32) (sv : Nat → Int32) (tl : Nat → Int32) (su : Nat → Int32) (qu : Nat → Int32) (wa : Int32) (ru : Int32) (sp : Int32) (iv : Bool) : mo_single 57 me rg so sv tl su qu wa ru sp iv = mo_single_j223 57 me rg so sv tl su qu wa ru sp iv := by
  unfold mo_single
  rw [if_neg (by decide), if_neg (by decide), if_neg (by decide), if_neg (by decide), if_neg (by decide), if_neg (by decide), if_neg (by decide), if_pos (by decide)]
  unfold mo_single_j203
  rw [if_neg (by decide), if_pos (by decide)]
theorem sl_58 (me : Nat → Int32) (rg : Nat → Int32) (so : Nat → Int32) (sv : Nat → Int32) (tl : Nat → Int32) (su : Nat → Int32) (qu : Nat → Int32) (wa : Int32) (ru : Int32) (sp : Int32) (iv : Bool) : mo_single 58 me rg so sv tl su qu wa ru sp iv = mo_single_j223 58 me rg so sv tl su qu wa ru sp iv := by
  unfold mo_single
  rw [if_neg (by decide), if_neg (by decide), if_neg (by decide), if_neg (by decide), if_neg (by decide), if_neg (by decide), if_neg (by decide), if_pos (by decide)]
  unfold mo_single_j203
  rw [if_neg (by decide), if_pos (by decide)]
theorem sl_59 (me : Nat → Int32) (rg : Nat → Int32) (so : Nat → Int32) (sv : Nat → Int32) (tl : Nat → Int32) (su : Nat → Int32) (qu : Nat → Int32) (wa : Int32) (ru : Int32) (sp : Int32) (iv : Bool) : mo_single 59 me rg so sv tl su qu wa ru sp iv = mo_single_j223 59 me rg so sv tl su qu wa ru sp iv := by
  unfold mo_single
  rw [if_neg (by decide), if_neg (by decide), if_neg (by decide), if_neg (by decide), if_neg (by decide), if_neg (by decide), if_neg (by decide), if_pos (by decide)]
  unfold mo_single_j203
  rw [if_neg (by decide), if_pos (by decide)]
theorem sl_60 (me : Nat → Int32) (rg : Nat → Int32) (so : Nat → Int32) (sv : Nat → Int32) (tl : Nat → Int32) (su : Nat → Int32) (qu : Nat → Int32) (wa : Int32) (ru : Int32) (sp : Int32) (iv : Bool) : mo_single 60 me rg so sv tl su qu wa ru sp iv = mo_single_j223 60 me rg so sv tl su qu wa ru sp iv := by
  unfold mo_single
  rw [if_neg (by decide), if_neg (by decide), if_neg (by decide), if_neg (by decide), if_neg (by decide), if_neg (by decide), if_neg (by decide), if_pos (by decide)]
  unfold mo_single_j203
  rw [if_neg (by decide), if_pos (by decide)]
theorem sl_61 (me : Nat → Int32) (rg : Nat → Int32) (so : Nat → Int32) (sv : Nat → Int32) (tl : Nat → Int32) (su : Nat → Int32) (qu : Nat → Int32) (wa : Int32) (ru : Int32) (sp : Int32) (iv : Bool) : mo_single 61 me rg so sv tl su qu wa ru sp iv = mo_single_j223 61 me rg so sv tl su qu wa ru sp iv := by
  unfold mo_single
  rw [if_neg (by decide), if_neg (by decide), if_neg (by decide), if_neg (by decide), if_neg (by decide), if_neg (by decide), if_neg (by decide), if_pos (by decide)]
  unfold mo_single_j203
  rw [if_neg (by decide), if_pos (by decide)]
theorem sl_62 (me : Nat → Int32) (rg : Nat → Int32) (so : Nat → Int32) (sv : Nat → Int32) (tl : Nat → Int32) (su : Nat → Int32) (qu : Nat → Int32) (wa : Int32) (ru : Int32) (sp : Int32) (iv : Bool) : mo_single 62 me rg so sv tl su qu wa ru sp iv = mo_single_j223 62 me rg so sv tl su qu wa ru sp iv := by
  unfold mo_single
  rw [if_neg (by decide), if_neg (by decide), if_neg (by decide), if_neg (by decide), if_neg (by decide), if_neg (by decide), if_neg (by decide), if_pos (by decide)]
  unfold mo_single_j203
  rw [if_neg (by decide), if_pos (by decide)]
theorem sl_63 (me : Nat → Int32) (rg : Nat → Int32) (so : Nat → Int32) (sv : Nat → Int32) (tl : Nat → Int32) (su : Nat → Int32) (qu : Nat → Int32) (wa : Int32) (ru : Int32) (sp : Int32) (iv : Bool) : mo_single 63 me rg so sv tl su qu wa ru sp iv = mo_single_j223 63 me rg so sv tl su qu wa ru sp iv := by
  unfold mo_single
  rw [if_neg (by decide), if_neg (by decide), if_neg (by decide), if_neg (by decide), if_neg (by decide), if_neg (by decide), if_neg (by decide), if_pos (by decide)]
  unfold mo_single_j203
  rw [if_neg (by decide), if_pos (by decide)]
