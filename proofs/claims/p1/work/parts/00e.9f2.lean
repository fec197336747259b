/-! ===== a step of a trace, by letter ===== -/
section MK2
/-- the guards of a step; if they hold, the step keeps what the recording knows -/
def TRS (M S G F : Mem) (bS bR g0 v : Nat) (eS eR : Nat → Nat) : Prop := ∃ g1, g1 ≤ g0 + 4 ∧ mI G 69 78 = nI g1 ∧ GCK M S G g0 g1 (∀ S2 E, (S2 = S ∨ ∃ V, S2 = rkM S V) → d_X12_executes S2 = some ((), E) → SQ E F bS bR eS eR v)
theorem tr_108 {M S R G F : Mem} {bS bR n ob1 ns1 nc1 nf1 ob2 ns2 nc2 nf2 f i e1 m1 h1 e2 m2 h2 a v g0 k gg : Nat} {eS eR : Nat → Nat} {val rval : Nat → Vl} (A1 : ATI S (bS + n) ob1 ns1 nc1 nf1 f i e1 m1 h1 (nI a) 108) (A2 : ATI R (bR + n) ob2 ns2 nc2 nf2 f i e2 m2 h2 (nI a) 108) (hf1 : f < nf1) (hf2 : f < nf2) (hRC : RC M S 18 (bS + n) ns1) (gc : mI M 18 7 = nI 108) (r1 : mI S 69 71 = nI 0) (r2 : mI R 69 71 = nI 1) (hs : Sat S R bS bR n eS eR ob1 ob2 v val rval) (hv5 : v < 500) (g8 : mI R 69 78 = nI g0) (hg : g0 + 4 ≤ 120) (hgd : d_X12_guards (nI 108) R = some ((), G)) (hgf : GDF R G g0 k gg) (hF : d_X12_executes (lnR G k f i) = some ((), F)) (ha : a < 6) : TRS M S G F bS bR g0 v eS eR := by
  obtain ⟨g1, gl, gq, hk⟩ := tg_108 A1 A2 hRC gc hs hv5 g8 hg hgd 
  refine ⟨g1, gl, gq, hk.imp (fun z S2 E hq hE => ?_)⟩
  have hB2 : SB S S2 := by
    rcases hq with rfl | ⟨V, rfl⟩
    · exact SB.refl _
    · exact rk_sb _ _
  have hBG : SB R (lnR G k f i) := hgf.sb
  have B1 := ati_fr A1 hB2 hf1
  have B2 := ati_fr A2 hBG hf2
  have hs2 := sat_fr (sat_ln (k := k) (f := f) (i := i) z.1) hB2
  have s := hB2.1
  have g := hBG.1
  exact sq_l B1 B2 ((s 69 71 (by omega) (by omega)).trans r1) ((g 69 71 (by omega) (by omega)).trans r2) hv5 hE hF hs2 ha
theorem tr_115 {M S R G F : Mem} {bS bR n ob1 ns1 nc1 nf1 ob2 ns2 nc2 nf2 f i e1 m1 h1 e2 m2 h2 a v g0 k gg : Nat} {eS eR : Nat → Nat} {val rval : Nat → Vl} (A1 : ATI S (bS + n) ob1 ns1 nc1 nf1 f i e1 m1 h1 (nI a) 115) (A2 : ATI R (bR + n) ob2 ns2 nc2 nf2 f i e2 m2 h2 (nI a) 115) (hf1 : f < nf1) (hf2 : f < nf2) (hRC : RC M S 18 (bS + n) ns1) (gc : mI M 18 7 = nI 115) (r1 : mI S 69 71 = nI 0) (r2 : mI R 69 71 = nI 1) (hs : Sat S R bS bR n eS eR ob1 ob2 v val rval) (hv5 : v < 500) (g8 : mI R 69 78 = nI g0) (hg : g0 + 4 ≤ 120) (hgd : d_X12_guards (nI 115) R = some ((), G)) (hgf : GDF R G g0 k gg) (hF : d_X12_executes (lnR G k f i) = some ((), F)) (ha : a < 6) : TRS M S G F bS bR g0 v eS eR := by
  obtain ⟨g1, gl, gq, hk⟩ := tg_115 A1 A2 hRC gc hs hv5 g8 hg hgd 
  refine ⟨g1, gl, gq, hk.imp (fun z S2 E hq hE => ?_)⟩
  have hB2 : SB S S2 := by
    rcases hq with rfl | ⟨V, rfl⟩
    · exact SB.refl _
    · exact rk_sb _ _
  have hBG : SB R (lnR G k f i) := hgf.sb
  have B1 := ati_fr A1 hB2 hf1
  have B2 := ati_fr A2 hBG hf2
  have hs2 := sat_fr (sat_ln (k := k) (f := f) (i := i) z.1) hB2
  have s := hB2.1
  have g := hBG.1
  exact sq_s B1 B2 ((s 69 71 (by omega) (by omega)).trans r1) ((g 69 71 (by omega) (by omega)).trans r2) hv5 hE hF hs2 ha
theorem tr_117 {M S R G F : Mem} {bS bR n ob1 ns1 nc1 nf1 ob2 ns2 nc2 nf2 f i e1 m1 h1 e2 m2 h2 a v g0 k gg : Nat} {eS eR : Nat → Nat} {val rval : Nat → Vl} (A1 : ATI S (bS + n) ob1 ns1 nc1 nf1 f i e1 m1 h1 (nI a) 117) (A2 : ATI R (bR + n) ob2 ns2 nc2 nf2 f i e2 m2 h2 (nI a) 117) (hf1 : f < nf1) (hf2 : f < nf2) (hRC : RC M S 18 (bS + n) ns1) (gc : mI M 18 7 = nI 117) (r1 : mI S 69 71 = nI 0) (r2 : mI R 69 71 = nI 1) (hs : Sat S R bS bR n eS eR ob1 ob2 v val rval) (hv5 : v < 500) (g8 : mI R 69 78 = nI g0) (hg : g0 + 4 ≤ 120) (hgd : d_X12_guards (nI 117) R = some ((), G)) (hgf : GDF R G g0 k gg) (hF : d_X12_executes (lnR G k f i) = some ((), F)) : TRS M S G F bS bR g0 v eS eR := by
  obtain ⟨g1, gl, gq, hk⟩ := tg_117 A1 A2 hRC gc hs hv5 g8 hg hgd 
  refine ⟨g1, gl, gq, hk.imp (fun z S2 E hq hE => ?_)⟩
  have hB2 : SB S S2 := by
    rcases hq with rfl | ⟨V, rfl⟩
    · exact SB.refl _
    · exact rk_sb _ _
  have hBG : SB R (lnR G k f i) := hgf.sb
  have B1 := ati_fr A1 hB2 hf1
  have B2 := ati_fr A2 hBG hf2
  have hs2 := sat_fr (sat_ln (k := k) (f := f) (i := i) z.1) hB2
  have s := hB2.1
  have g := hBG.1
  exact sq_u B1 B2 ((s 69 71 (by omega) (by omega)).trans r1) ((g 69 71 (by omega) (by omega)).trans r2) hv5 hE hF hs2 
theorem tr_100 {M S R G F : Mem} {bS bR n ob1 ns1 nc1 nf1 ob2 ns2 nc2 nf2 f i e1 m1 h1 e2 m2 h2 a v g0 k gg : Nat} {eS eR : Nat → Nat} {val rval : Nat → Vl} (A1 : ATI S (bS + n) ob1 ns1 nc1 nf1 f i e1 m1 h1 (nI a) 100) (A2 : ATI R (bR + n) ob2 ns2 nc2 nf2 f i e2 m2 h2 (nI a) 100) (hf1 : f < nf1) (hf2 : f < nf2) (hRC : RC M S 18 (bS + n) ns1) (gc : mI M 18 7 = nI 100) (r1 : mI S 69 71 = nI 0) (r2 : mI R 69 71 = nI 1) (hs : Sat S R bS bR n eS eR ob1 ob2 v val rval) (hv5 : v < 500) (g8 : mI R 69 78 = nI g0) (hg : g0 + 4 ≤ 120) (hgd : d_X12_guards (nI 100) R = some ((), G)) (hgf : GDF R G g0 k gg) (hF : d_X12_executes (lnR G k f i) = some ((), F)) : TRS M S G F bS bR g0 v eS eR := by
  obtain ⟨g1, gl, gq, hk⟩ := tg_100 A1 A2 hRC gc hs hv5 g8 hg hgd 
  refine ⟨g1, gl, gq, hk.imp (fun z S2 E hq hE => ?_)⟩
  have hB2 : SB S S2 := by
    rcases hq with rfl | ⟨V, rfl⟩
    · exact SB.refl _
    · exact rk_sb _ _
  have hBG : SB R (lnR G k f i) := hgf.sb
  have B1 := ati_fr A1 hB2 hf1
  have B2 := ati_fr A2 hBG hf2
  have hs2 := sat_fr (sat_ln (k := k) (f := f) (i := i) z.1) hB2
  have s := hB2.1
  have g := hBG.1
  exact sq_d B1 B2 ((s 69 71 (by omega) (by omega)).trans r1) ((g 69 71 (by omega) (by omega)).trans r2) hv5 hE hF hs2 
theorem tr_116 {M S R G F : Mem} {bS bR n ob1 ns1 nc1 nf1 ob2 ns2 nc2 nf2 f i e1 m1 h1 e2 m2 h2 a v g0 k gg : Nat} {eS eR : Nat → Nat} {val rval : Nat → Vl} (A1 : ATI S (bS + n) ob1 ns1 nc1 nf1 f i e1 m1 h1 (nI a) 116) (A2 : ATI R (bR + n) ob2 ns2 nc2 nf2 f i e2 m2 h2 (nI a) 116) (hf1 : f < nf1) (hf2 : f < nf2) (hRC : RC M S 18 (bS + n) ns1) (gc : mI M 18 7 = nI 116) (r1 : mI S 69 71 = nI 0) (r2 : mI R 69 71 = nI 1) (hs : Sat S R bS bR n eS eR ob1 ob2 v val rval) (hv5 : v < 500) (g8 : mI R 69 78 = nI g0) (hg : g0 + 4 ≤ 120) (hgd : d_X12_guards (nI 116) R = some ((), G)) (hgf : GDF R G g0 k gg) (hF : d_X12_executes (lnR G k f i) = some ((), F)) : TRS M S G F bS bR g0 v eS eR := by
  obtain ⟨g1, gl, gq, hk⟩ := tg_116 A1 A2 hRC gc hs hv5 g8 hg hgd 
  refine ⟨g1, gl, gq, hk.imp (fun z S2 E hq hE => ?_)⟩
  have hB2 : SB S S2 := by
    rcases hq with rfl | ⟨V, rfl⟩
    · exact SB.refl _
    · exact rk_sb _ _
  have hBG : SB R (lnR G k f i) := hgf.sb
  have B1 := ati_fr A1 hB2 hf1
  have B2 := ati_fr A2 hBG hf2
  have hs2 := sat_fr (sat_ln (k := k) (f := f) (i := i) z.1) hB2
  have s := hB2.1
  have g := hBG.1
  exact sq_t B1 B2 ((s 69 71 (by omega) (by omega)).trans r1) ((g 69 71 (by omega) (by omega)).trans r2) hv5 hE hF hs2 
theorem tr_106 {M S R G F : Mem} {bS bR n ob1 ns1 nc1 nf1 ob2 ns2 nc2 nf2 f i e1 m1 h1 e2 m2 h2 a v g0 k gg : Nat} {eS eR : Nat → Nat} {val rval : Nat → Vl} (A1 : ATI S (bS + n) ob1 ns1 nc1 nf1 f i e1 m1 h1 (nI a) 106) (A2 : ATI R (bR + n) ob2 ns2 nc2 nf2 f i e2 m2 h2 (nI a) 106) (hf1 : f < nf1) (hf2 : f < nf2) (hRC : RC M S 18 (bS + n) ns1) (gc : mI M 18 7 = nI 106) (r1 : mI S 69 71 = nI 0) (r2 : mI R 69 71 = nI 1) (hs : Sat S R bS bR n eS eR ob1 ob2 v val rval) (hv5 : v < 500) (g8 : mI R 69 78 = nI g0) (hg : g0 + 4 ≤ 120) (hgd : d_X12_guards (nI 106) R = some ((), G)) (hgf : GDF R G g0 k gg) (hF : d_X12_executes (lnR G k f i) = some ((), F)) (ha : a < 40) : TRS M S G F bS bR g0 v eS eR := by
  obtain ⟨g1, gl, gq, hk⟩ := tg_106 A1 A2 hRC gc hs hv5 g8 hg hgd 
  refine ⟨g1, gl, gq, hk.imp (fun z S2 E hq hE => ?_)⟩
  have hB2 : SB S S2 := by
    rcases hq with rfl | ⟨V, rfl⟩
    · exact SB.refl _
    · exact rk_sb _ _
  have hBG : SB R (lnR G k f i) := hgf.sb
  have B1 := ati_fr A1 hB2 hf1
  have B2 := ati_fr A2 hBG hf2
  have hs2 := sat_fr (sat_ln (k := k) (f := f) (i := i) z.1) hB2
  have s := hB2.1
  have g := hBG.1
  exact sq_j B1 B2 ((s 69 71 (by omega) (by omega)).trans r1) ((g 69 71 (by omega) (by omega)).trans r2) hv5 hE hF hs2 ha
theorem tr_122 {M S R G F : Mem} {bS bR n ob1 ns1 nc1 nf1 ob2 ns2 nc2 nf2 f i e1 m1 h1 e2 m2 h2 a v g0 k gg : Nat} {eS eR : Nat → Nat} {val rval : Nat → Vl} (A1 : ATI S (bS + n) ob1 ns1 nc1 nf1 f i e1 m1 h1 (nI a) 122) (A2 : ATI R (bR + n) ob2 ns2 nc2 nf2 f i e2 m2 h2 (nI a) 122) (hf1 : f < nf1) (hf2 : f < nf2) (hRC : RC M S 18 (bS + n) ns1) (gc : mI M 18 7 = nI 122) (r1 : mI S 69 71 = nI 0) (r2 : mI R 69 71 = nI 1) (hs : Sat S R bS bR n eS eR ob1 ob2 v val rval) (hv5 : v < 500) (g8 : mI R 69 78 = nI g0) (hg : g0 + 4 ≤ 120) (hgd : d_X12_guards (nI 122) R = some ((), G)) (hgf : GDF R G g0 k gg) (hF : d_X12_executes (lnR G k f i) = some ((), F)) (ha : a < 40) : TRS M S G F bS bR g0 v eS eR := by
  obtain ⟨g1, gl, gq, hk⟩ := tg_122 A1 A2 hRC gc hs hv5 g8 hg hgd ha
  refine ⟨g1, gl, gq, hk.imp (fun z S2 E hq hE => ?_)⟩
  have hB2 : SB S S2 := by
    rcases hq with rfl | ⟨V, rfl⟩
    · exact SB.refl _
    · exact rk_sb _ _
  have hBG : SB R (lnR G k f i) := hgf.sb
  have B1 := ati_fr A1 hB2 hf1
  have B2 := ati_fr A2 hBG hf2
  have hs2 := sat_fr (sat_ln (k := k) (f := f) (i := i) z.1) hB2
  have s := hB2.1
  have g := hBG.1
  exact sq_z B1 B2 ((s 69 71 (by omega) (by omega)).trans r1) ((g 69 71 (by omega) (by omega)).trans r2) hv5 hE hF hs2 ha (by rw [vS_fr hB2, vS_fr hBG]; exact z.2)
theorem tr_105 {M S R G F : Mem} {bS bR n ob1 ns1 nc1 nf1 ob2 ns2 nc2 nf2 f i e1 m1 h1 e2 m2 h2 a v g0 k gg : Nat} {eS eR : Nat → Nat} {val rval : Nat → Vl} (A1 : ATI S (bS + n) ob1 ns1 nc1 nf1 f i e1 m1 h1 (nI a) 105) (A2 : ATI R (bR + n) ob2 ns2 nc2 nf2 f i e2 m2 h2 (nI a) 105) (hf1 : f < nf1) (hf2 : f < nf2) (hRC : RC M S 18 (bS + n) ns1) (gc : mI M 18 7 = nI 105) (r1 : mI S 69 71 = nI 0) (r2 : mI R 69 71 = nI 1) (hs : Sat S R bS bR n eS eR ob1 ob2 v val rval) (hv5 : v < 500) (g8 : mI R 69 78 = nI g0) (hg : g0 + 4 ≤ 120) (hgd : d_X12_guards (nI 105) R = some ((), G)) (hgf : GDF R G g0 k gg) (hF : d_X12_executes (lnR G k f i) = some ((), F)) : TRS M S G F bS bR g0 v eS eR := by
  obtain ⟨g1, gl, gq, hk⟩ := tg_105 A1 A2 hRC gc hs hv5 g8 hg hgd 
  refine ⟨g1, gl, gq, hk.imp (fun z S2 E hq hE => ?_)⟩
  have hB2 : SB S S2 := by
    rcases hq with rfl | ⟨V, rfl⟩
    · exact SB.refl _
    · exact rk_sb _ _
  have hBG : SB R (lnR G k f i) := hgf.sb
  have B1 := ati_fr A1 hB2 hf1
  have B2 := ati_fr A2 hBG hf2
  have hs2 := sat_fr (sat_ln (k := k) (f := f) (i := i) z.1) hB2
  have s := hB2.1
  have g := hBG.1
  exact sq_i B1 B2 ((s 69 71 (by omega) (by omega)).trans r1) ((g 69 71 (by omega) (by omega)).trans r2) hv5 hE hF hs2 
theorem tr_107 {M S R G F : Mem} {bS bR n ob1 ns1 nc1 nf1 ob2 ns2 nc2 nf2 f i e1 m1 h1 e2 m2 h2 a v g0 k gg : Nat} {eS eR : Nat → Nat} {val rval : Nat → Vl} (A1 : ATI S (bS + n) ob1 ns1 nc1 nf1 f i e1 m1 h1 (nI a) 107) (A2 : ATI R (bR + n) ob2 ns2 nc2 nf2 f i e2 m2 h2 (nI a) 107) (hf1 : f < nf1) (hf2 : f < nf2) (hRC : RC M S 18 (bS + n) ns1) (gc : mI M 18 7 = nI 107) (r1 : mI S 69 71 = nI 0) (r2 : mI R 69 71 = nI 1) (hs : Sat S R bS bR n eS eR ob1 ob2 v val rval) (hv5 : v < 500) (g8 : mI R 69 78 = nI g0) (hg : g0 + 4 ≤ 120) (hgd : d_X12_guards (nI 107) R = some ((), G)) (hgf : GDF R G g0 k gg) (hF : d_X12_executes (lnR G k f i) = some ((), F)) (ha : a < 8) (h75 : mI S 75 a = mI R 75 a) : TRS M S G F bS bR g0 v eS eR := by
  obtain ⟨g1, gl, gq, hk⟩ := tg_107 A1 A2 hRC gc hs hv5 g8 hg hgd 
  refine ⟨g1, gl, gq, hk.imp (fun z S2 E hq hE => ?_)⟩
  have hB2 : SB S S2 := by
    rcases hq with rfl | ⟨V, rfl⟩
    · exact SB.refl _
    · exact rk_sb _ _
  have hBG : SB R (lnR G k f i) := hgf.sb
  have B1 := ati_fr A1 hB2 hf1
  have B2 := ati_fr A2 hBG hf2
  have hs2 := sat_fr (sat_ln (k := k) (f := f) (i := i) z.1) hB2
  have s := hB2.1
  have g := hBG.1
  exact sq_k B1 B2 ((s 69 71 (by omega) (by omega)).trans r1) ((g 69 71 (by omega) (by omega)).trans r2) hv5 hE hF hs2 ((s 75 a (by omega) (by omega)).trans (h75.trans (g 75 a (by omega) (by omega)).symm)) ha
theorem tr_103 {M S R G F : Mem} {bS bR n ob1 ns1 nc1 nf1 ob2 ns2 nc2 nf2 f i e1 m1 h1 e2 m2 h2 a v g0 k gg : Nat} {eS eR : Nat → Nat} {val rval : Nat → Vl} (A1 : ATI S (bS + n) ob1 ns1 nc1 nf1 f i e1 m1 h1 (nI a) 103) (A2 : ATI R (bR + n) ob2 ns2 nc2 nf2 f i e2 m2 h2 (nI a) 103) (hf1 : f < nf1) (hf2 : f < nf2) (hRC : RC M S 18 (bS + n) ns1) (gc : mI M 18 7 = nI 103) (r1 : mI S 69 71 = nI 0) (r2 : mI R 69 71 = nI 1) (hs : Sat S R bS bR n eS eR ob1 ob2 v val rval) (hv5 : v < 500) (g8 : mI R 69 78 = nI g0) (hg : g0 + 4 ≤ 120) (hgd : d_X12_guards (nI 103) R = some ((), G)) (hgf : GDF R G g0 k gg) (hF : d_X12_executes (lnR G k f i) = some ((), F)) (ha : a < 6) : TRS M S G F bS bR g0 v eS eR := by
  obtain ⟨g1, gl, gq, hk⟩ := tg_103 A1 A2 hRC gc hs hv5 g8 hg hgd ha
  refine ⟨g1, gl, gq, hk.imp (fun z S2 E hq hE => ?_)⟩
  have hB2 : SB S S2 := by
    rcases hq with rfl | ⟨V, rfl⟩
    · exact SB.refl _
    · exact rk_sb _ _
  have hBG : SB R (lnR G k f i) := hgf.sb
  have B1 := ati_fr A1 hB2 hf1
  have B2 := ati_fr A2 hBG hf2
  have hs2 := sat_fr (sat_ln (k := k) (f := f) (i := i) z.1) hB2
  have s := hB2.1
  have g := hBG.1
  exact sq_g B1 B2 ((s 69 71 (by omega) (by omega)).trans r1) ((g 69 71 (by omega) (by omega)).trans r2) hv5 hE hF hs2 ha
theorem tr_119 {M S R G F : Mem} {bS bR n ob1 ns1 nc1 nf1 ob2 ns2 nc2 nf2 f i e1 m1 h1 e2 m2 h2 a v g0 k gg : Nat} {eS eR : Nat → Nat} {val rval : Nat → Vl} (A1 : ATI S (bS + n) ob1 ns1 nc1 nf1 f i e1 m1 h1 (nI a) 119) (A2 : ATI R (bR + n) ob2 ns2 nc2 nf2 f i e2 m2 h2 (nI a) 119) (hf1 : f < nf1) (hf2 : f < nf2) (hRC : RC M S 18 (bS + n) ns1) (gc : mI M 18 7 = nI 119) (r1 : mI S 69 71 = nI 0) (r2 : mI R 69 71 = nI 1) (hs : Sat S R bS bR n eS eR ob1 ob2 v val rval) (hv5 : v < 500) (g8 : mI R 69 78 = nI g0) (hg : g0 + 4 ≤ 120) (hgd : d_X12_guards (nI 119) R = some ((), G)) (hgf : GDF R G g0 k gg) (hF : d_X12_executes (lnR G k f i) = some ((), F)) : TRS M S G F bS bR g0 v eS eR := by
  obtain ⟨g1, gl, gq, hk⟩ := tg_119 A1 A2 hRC gc hs hv5 g8 hg hgd 
  refine ⟨g1, gl, gq, hk.imp (fun z S2 E hq hE => ?_)⟩
  have hB2 : SB S S2 := by
    rcases hq with rfl | ⟨V, rfl⟩
    · exact SB.refl _
    · exact rk_sb _ _
  have hBG : SB R (lnR G k f i) := hgf.sb
  have B1 := ati_fr A1 hB2 hf1
  have B2 := ati_fr A2 hBG hf2
  have hs2 := sat_fr (sat_ln (k := k) (f := f) (i := i) z.1) hB2
  have s := hB2.1
  have g := hBG.1
  exact sq_w B1 B2 ((s 69 71 (by omega) (by omega)).trans r1) ((g 69 71 (by omega) (by omega)).trans r2) hv5 hE hF hs2 
theorem tr_110 {M S R G F : Mem} {bS bR n ob1 ns1 nc1 nf1 ob2 ns2 nc2 nf2 f i e1 m1 h1 e2 m2 h2 a v g0 k gg : Nat} {eS eR : Nat → Nat} {val rval : Nat → Vl} (A1 : ATI S (bS + n) ob1 ns1 nc1 nf1 f i e1 m1 h1 (nI a) 110) (A2 : ATI R (bR + n) ob2 ns2 nc2 nf2 f i e2 m2 h2 (nI a) 110) (hf1 : f < nf1) (hf2 : f < nf2) (hRC : RC M S 18 (bS + n) ns1) (gc : mI M 18 7 = nI 110) (r1 : mI S 69 71 = nI 0) (r2 : mI R 69 71 = nI 1) (hs : Sat S R bS bR n eS eR ob1 ob2 v val rval) (hv5 : v < 500) (g8 : mI R 69 78 = nI g0) (hg : g0 + 4 ≤ 120) (hgd : d_X12_guards (nI 110) R = some ((), G)) (hgf : GDF R G g0 k gg) (hF : d_X12_executes (lnR G k f i) = some ((), F)) (ha : a < 5) (h78 : mI S 78 a = mI R 78 a) : TRS M S G F bS bR g0 v eS eR := by
  obtain ⟨g1, gl, gq, hk⟩ := tg_110 A1 A2 hRC gc hs hv5 g8 hg hgd 
  refine ⟨g1, gl, gq, hk.imp (fun z S2 E hq hE => ?_)⟩
  have hB2 : SB S S2 := by
    rcases hq with rfl | ⟨V, rfl⟩
    · exact SB.refl _
    · exact rk_sb _ _
  have hBG : SB R (lnR G k f i) := hgf.sb
  have B1 := ati_fr A1 hB2 hf1
  have B2 := ati_fr A2 hBG hf2
  have hs2 := sat_fr (sat_ln (k := k) (f := f) (i := i) z.1) hB2
  have s := hB2.1
  have g := hBG.1
  exact sq_n B1 B2 ((s 69 71 (by omega) (by omega)).trans r1) ((g 69 71 (by omega) (by omega)).trans r2) hv5 hE hF hs2 ha ((s 78 a (by omega) (by omega)).trans (h78.trans (g 78 a (by omega) (by omega)).symm))
theorem tr_99 {M S R G F : Mem} {bS bR n ob1 ns1 nc1 nf1 ob2 ns2 nc2 nf2 f i e1 m1 h1 e2 m2 h2 a v g0 k gg : Nat} {eS eR : Nat → Nat} {val rval : Nat → Vl} (A1 : ATI S (bS + n) ob1 ns1 nc1 nf1 f i e1 m1 h1 (nI a) 99) (A2 : ATI R (bR + n) ob2 ns2 nc2 nf2 f i e2 m2 h2 (nI a) 99) (hf1 : f < nf1) (hf2 : f < nf2) (hRC : RC M S 18 (bS + n) ns1) (gc : mI M 18 7 = nI 99) (r1 : mI S 69 71 = nI 0) (r2 : mI R 69 71 = nI 1) (hs : Sat S R bS bR n eS eR ob1 ob2 v val rval) (hv5 : v < 500) (g8 : mI R 69 78 = nI g0) (hg : g0 + 4 ≤ 120) (hgd : d_X12_guards (nI 99) R = some ((), G)) (hgf : GDF R G g0 k gg) (hF : d_X12_executes (lnR G k f i) = some ((), F)) (ha1 : a < nf1) (ha2 : a < nf2) (h70 : mI S 70 a = mI R 70 a) : TRS M S G F bS bR g0 v eS eR := by
  obtain ⟨g1, gl, gq, hk⟩ := tg_99 A1 A2 hRC gc hs hv5 g8 hg hgd 
  refine ⟨g1, gl, gq, hk.imp (fun z S2 E hq hE => ?_)⟩
  have hB2 : SB S S2 := by
    rcases hq with rfl | ⟨V, rfl⟩
    · exact SB.refl _
    · exact rk_sb _ _
  have hBG : SB R (lnR G k f i) := hgf.sb
  have B1 := ati_fr A1 hB2 hf1
  have B2 := ati_fr A2 hBG hf2
  have hs2 := sat_fr (sat_ln (k := k) (f := f) (i := i) z.1) hB2
  have s := hB2.1
  have g := hBG.1
  exact sq_c B1 B2 ((s 69 71 (by omega) (by omega)).trans r1) ((g 69 71 (by omega) (by omega)).trans r2) hv5 hE hF hs2 ha1 ha2 ((s 70 a (by omega) (by omega)).trans (h70.trans (g 70 a (by omega) (by omega)).symm))
theorem tr_114 {M S R G F : Mem} {bS bR n ob1 ns1 nc1 nf1 ob2 ns2 nc2 nf2 f i e1 m1 h1 e2 m2 h2 a v g0 k gg : Nat} {eS eR : Nat → Nat} {val rval : Nat → Vl} (A1 : ATI S (bS + n) ob1 ns1 nc1 nf1 f i e1 m1 h1 (nI a) 114) (A2 : ATI R (bR + n) ob2 ns2 nc2 nf2 f i e2 m2 h2 (nI a) 114) (hf1 : f < nf1) (hf2 : f < nf2) (hRC : RC M S 18 (bS + n) ns1) (gc : mI M 18 7 = nI 114) (r1 : mI S 69 71 = nI 0) (r2 : mI R 69 71 = nI 1) (hs : Sat S R bS bR n eS eR ob1 ob2 v val rval) (hv5 : v < 500) (g8 : mI R 69 78 = nI g0) (hg : g0 + 4 ≤ 120) (hgd : d_X12_guards (nI 114) R = some ((), G)) (hgf : GDF R G g0 k gg) (hF : d_X12_executes (lnR G k f i) = some ((), F)) (hn : 1 ≤ n) : TRS M S G F bS bR g0 v eS eR := by
  obtain ⟨g1, gl, gq, hk⟩ := tg_114 A1 A2 hRC gc hs hv5 g8 hg hgd 
  refine ⟨g1, gl, gq, hk.imp (fun z S2 E hq hE => ?_)⟩
  have hB2 : SB S S2 := by
    rcases hq with rfl | ⟨V, rfl⟩
    · exact SB.refl _
    · exact rk_sb _ _
  have hBG : SB R (lnR G k f i) := hgf.sb
  have B1 := ati_fr A1 hB2 hf1
  have B2 := ati_fr A2 hBG hf2
  have hs2 := sat_fr (sat_ln (k := k) (f := f) (i := i) z.1) hB2
  have s := hB2.1
  have g := hBG.1
  exact sq_r B1 B2 ((s 69 71 (by omega) (by omega)).trans r1) ((g 69 71 (by omega) (by omega)).trans r2) hv5 hE hF hs2 hn
theorem tr_109 {M S R G F : Mem} {bS bR n ob1 ns1 nc1 nf1 ob2 ns2 nc2 nf2 f i e1 m1 h1 e2 m2 h2 a v g0 k gg : Nat} {eS eR : Nat → Nat} {val rval : Nat → Vl} (A1 : ATI S (bS + n) ob1 ns1 nc1 nf1 f i e1 m1 h1 (nI a) 109) (A2 : ATI R (bR + n) ob2 ns2 nc2 nf2 f i e2 m2 h2 (nI a) 109) (hf1 : f < nf1) (hf2 : f < nf2) (hRC : RC M S 18 (bS + n) ns1) (gc : mI M 18 7 = nI 109) (r1 : mI S 69 71 = nI 0) (r2 : mI R 69 71 = nI 1) (hs : Sat S R bS bR n eS eR ob1 ob2 v val rval) (hv5 : v < 500) (g8 : mI R 69 78 = nI g0) (hg : g0 + 4 ≤ 120) (hgd : d_X12_guards (nI 109) R = some ((), G)) (hgf : GDF R G g0 k gg) (hF : d_X12_executes (lnR G k f i) = some ((), F)) (ha : a < 6) (h79 : ∀ s, s < ns2 → mI S 79 s = mI R 79 s) (hmo : ∀ cl, cl < nc2 → mOf S a 7 (nI cl) = mOf R a 7 (nI cl)) : TRS M S G F bS bR g0 v eS eR := by
  obtain ⟨g1, gl, gq, hk⟩ := tg_109 A1 A2 hRC gc hs hv5 g8 hg hgd ha
  refine ⟨g1, gl, gq, hk.imp (fun z S2 E hq hE => ?_)⟩
  have hB2 : SB S S2 := by
    rcases hq with rfl | ⟨V, rfl⟩
    · exact SB.refl _
    · exact rk_sb _ _
  have hBG : SB R (lnR G k f i) := hgf.sb
  have B1 := ati_fr A1 hB2 hf1
  have B2 := ati_fr A2 hBG hf2
  have hs2 := sat_fr (sat_ln (k := k) (f := f) (i := i) z.1) hB2
  have s := hB2.1
  have g := hBG.1
  have mS : ∀ n k c, mOf S2 n k c = mOf S n k c := fun n k c => mOf_e (fun p => s 76 p (by omega) (by omega)) (fun p => s 77 p (by omega) (by omega)) n k c
  have mR : ∀ n k2 c, mOf (lnR G k f i) n k2 c = mOf R n k2 c := fun n k2 c => mOf_e (fun p => g 76 p (by omega) (by omega)) (fun p => g 77 p (by omega) (by omega)) n k2 c
  exact sq_m B1 B2 ((s 69 71 (by omega) (by omega)).trans r1) ((g 69 71 (by omega) (by omega)).trans r2) hv5 hE hF hs2 ha (fun tS tR qS qR x1 x2 x3 x4 x5 x6 => by rw [s 106 _ (by omega) (by omega)] at x5; rw [g 106 _ (by omega) (by omega)] at x6; rw [s 112 _ (by omega) (by omega), g 112 _ (by omega) (by omega)]; exact z.2 tS tR qS qR x1 x2 x3 x4 x5 x6) (fun q hq => (s 79 q (by omega) (by omega)).trans ((h79 q hq).trans (g 79 q (by omega) (by omega)).symm)) (fun cl hcl => (mS a 7 (nI cl)).trans ((hmo cl hcl).trans (mR a 7 (nI cl)).symm))
theorem tr_112 {M S R G F : Mem} {bS bR n ob1 ns1 nc1 nf1 ob2 ns2 nc2 nf2 f i e1 m1 h1 e2 m2 h2 a v g0 k gg : Nat} {eS eR : Nat → Nat} {val rval : Nat → Vl} (A1 : ATI S (bS + n) ob1 ns1 nc1 nf1 f i e1 m1 h1 (nI a) 112) (A2 : ATI R (bR + n) ob2 ns2 nc2 nf2 f i e2 m2 h2 (nI a) 112) (hf1 : f < nf1) (hf2 : f < nf2) (hRC : RC M S 18 (bS + n) ns1) (gc : mI M 18 7 = nI 112) (r1 : mI S 69 71 = nI 0) (r2 : mI R 69 71 = nI 1) (hs : Sat S R bS bR n eS eR ob1 ob2 v val rval) (hv5 : v < 500) (g8 : mI R 69 78 = nI g0) (hg : g0 + 4 ≤ 120) (hgd : d_X12_guards (nI 112) R = some ((), G)) (hgf : GDF R G g0 k gg) (hF : d_X12_executes (lnR G k f i) = some ((), F)) (ha : a < 6) (hhf : ∀ s, s < ns2 → (hasF S s a ↔ hasF R s a)) (h82 : ∀ s s2, s < ns2 → s2 < 60 → mI F 82 (6 * s + a) = nI s2 → mI S 82 (6 * s + a) = nI s2) : TRS M S G F bS bR g0 v eS eR := by
  obtain ⟨g1, gl, gq, hk⟩ := tg_112 A1 A2 hRC gc hs hv5 g8 hg hgd ha
  refine ⟨g1, gl, gq, hk.imp (fun z S2 E hq hE => ?_)⟩
  have hB2 : SB S S2 := by
    rcases hq with rfl | ⟨V, rfl⟩
    · exact SB.refl _
    · exact rk_sb _ _
  have hBG : SB R (lnR G k f i) := hgf.sb
  have B1 := ati_fr A1 hB2 hf1
  have B2 := ati_fr A2 hBG hf2
  have hs2 := sat_fr (sat_ln (k := k) (f := f) (i := i) z.1) hB2
  have s := hB2.1
  have g := hBG.1
  have hS2 : ∀ q n, hasF S2 q n = hasF S q n := hasF_s (fun p => s 80 p (by omega) (by omega)) (fun p => s 81 p (by omega) (by omega))
  have hGR : ∀ q n, hasF (lnR G k f i) q n = hasF R q n := hasF_s (fun p => g 80 p (by omega) (by omega)) (fun p => g 81 p (by omega) (by omega))
  exact sq_p B1 B2 ((s 69 71 (by omega) (by omega)).trans r1) ((g 69 71 (by omega) (by omega)).trans r2) hv5 hE hF hs2 ha (fun tS tR qS qR x1 x2 x3 x4 x5 x6 => by rw [s 106 _ (by omega) (by omega)] at x5; rw [g 106 _ (by omega) (by omega)] at x6; rw [s 112 _ (by omega) (by omega), g 112 _ (by omega) (by omega)]; exact z.2 tS tR qS qR x1 x2 x3 x4 x5 x6) (fun q hq => by rw [hS2, hGR]; exact hhf q hq) (fun q q2 x1 x2 x3 => (s 82 _ (by omega) (by omega)).trans (h82 q q2 x1 x2 x3))
theorem tr_43 {M S R G F : Mem} {bS bR n ob1 ns1 nc1 nf1 ob2 ns2 nc2 nf2 f i e1 m1 h1 e2 m2 h2 a v g0 k gg : Nat} {eS eR : Nat → Nat} {val rval : Nat → Vl} (A1 : ATI S (bS + n) ob1 ns1 nc1 nf1 f i e1 m1 h1 (nI a) 43) (A2 : ATI R (bR + n) ob2 ns2 nc2 nf2 f i e2 m2 h2 (nI a) 43) (hf1 : f < nf1) (hf2 : f < nf2) (hRC : RC M S 18 (bS + n) ns1) (gc : mI M 18 7 = nI 43) (r1 : mI S 69 71 = nI 0) (r2 : mI R 69 71 = nI 1) (hs : Sat S R bS bR n eS eR ob1 ob2 v val rval) (hv5 : v < 500) (g8 : mI R 69 78 = nI g0) (hg : g0 + 4 ≤ 120) (hgd : d_X12_guards (nI 43) R = some ((), G)) (hgf : GDF R G g0 k gg) (hF : d_X12_executes (lnR G k f i) = some ((), F)) : TRS M S G F bS bR g0 v eS eR := by
  obtain ⟨g1, gl, gq, hk⟩ := tg_43 A1 A2 hRC gc hs hv5 g8 hg hgd 
  refine ⟨g1, gl, gq, hk.imp (fun z S2 E hq hE => ?_)⟩
  have hB2 : SB S S2 := by
    rcases hq with rfl | ⟨V, rfl⟩
    · exact SB.refl _
    · exact rk_sb _ _
  have hBG : SB R (lnR G k f i) := hgf.sb
  have B1 := ati_fr A1 hB2 hf1
  have B2 := ati_fr A2 hBG hf2
  have hs2 := sat_fr (sat_ln (k := k) (f := f) (i := i) z.1) hB2
  have s := hB2.1
  have g := hBG.1
  have r5 : ∀ p, mI S2 105 p = mI S 105 p := fun p => s 105 p (by omega) (by omega)
  have r6 : ∀ p, mI S2 106 p = mI S 106 p := fun p => s 106 p (by omega) (by omega)
  have r7 : ∀ p, mD S2 107 p = mD S 107 p := fun p => hB2.2.1 107 p (by omega)
  have q5 : ∀ p, mI (lnR G k f i) 105 p = mI R 105 p := fun p => g 105 p (by omega) (by omega)
  have q6 : ∀ p, mI (lnR G k f i) 106 p = mI R 106 p := fun p => g 106 p (by omega) (by omega)
  have q7 : ∀ p, mD (lnR G k f i) 107 p = mD R 107 p := fun p => hBG.2.1 107 p (by omega)
  exact sq_add B1 B2 ((s 69 71 (by omega) (by omega)).trans r1) ((g 69 71 (by omega) (by omega)).trans r2) hv5 hE hF hs2 (fun tS tR y1 y2 => by simp only [r5, r6, r7, q5, q6, q7]; exact z.2 tS tR y1 y2)
theorem tr_45 {M S R G F : Mem} {bS bR n ob1 ns1 nc1 nf1 ob2 ns2 nc2 nf2 f i e1 m1 h1 e2 m2 h2 a v g0 k gg : Nat} {eS eR : Nat → Nat} {val rval : Nat → Vl} (A1 : ATI S (bS + n) ob1 ns1 nc1 nf1 f i e1 m1 h1 (nI a) 45) (A2 : ATI R (bR + n) ob2 ns2 nc2 nf2 f i e2 m2 h2 (nI a) 45) (hf1 : f < nf1) (hf2 : f < nf2) (hRC : RC M S 18 (bS + n) ns1) (gc : mI M 18 7 = nI 45) (r1 : mI S 69 71 = nI 0) (r2 : mI R 69 71 = nI 1) (hs : Sat S R bS bR n eS eR ob1 ob2 v val rval) (hv5 : v < 500) (g8 : mI R 69 78 = nI g0) (hg : g0 + 4 ≤ 120) (hgd : d_X12_guards (nI 45) R = some ((), G)) (hgf : GDF R G g0 k gg) (hF : d_X12_executes (lnR G k f i) = some ((), F)) : TRS M S G F bS bR g0 v eS eR := by
  obtain ⟨g1, gl, gq, hk⟩ := tg_45 A1 A2 hRC gc hs hv5 g8 hg hgd 
  refine ⟨g1, gl, gq, hk.imp (fun z S2 E hq hE => ?_)⟩
  have hB2 : SB S S2 := by
    rcases hq with rfl | ⟨V, rfl⟩
    · exact SB.refl _
    · exact rk_sb _ _
  have hBG : SB R (lnR G k f i) := hgf.sb
  have B1 := ati_fr A1 hB2 hf1
  have B2 := ati_fr A2 hBG hf2
  have hs2 := sat_fr (sat_ln (k := k) (f := f) (i := i) z.1) hB2
  have s := hB2.1
  have g := hBG.1
  have r5 : ∀ p, mI S2 105 p = mI S 105 p := fun p => s 105 p (by omega) (by omega)
  have r6 : ∀ p, mI S2 106 p = mI S 106 p := fun p => s 106 p (by omega) (by omega)
  have r7 : ∀ p, mD S2 107 p = mD S 107 p := fun p => hB2.2.1 107 p (by omega)
  have q5 : ∀ p, mI (lnR G k f i) 105 p = mI R 105 p := fun p => g 105 p (by omega) (by omega)
  have q6 : ∀ p, mI (lnR G k f i) 106 p = mI R 106 p := fun p => g 106 p (by omega) (by omega)
  have q7 : ∀ p, mD (lnR G k f i) 107 p = mD R 107 p := fun p => hBG.2.1 107 p (by omega)
  exact sq_sub B1 B2 ((s 69 71 (by omega) (by omega)).trans r1) ((g 69 71 (by omega) (by omega)).trans r2) hv5 hE hF hs2 (fun tS tR y1 y2 => by simp only [r5, r6, r7, q5, q6, q7]; exact z.2 tS tR y1 y2)
theorem tr_42 {M S R G F : Mem} {bS bR n ob1 ns1 nc1 nf1 ob2 ns2 nc2 nf2 f i e1 m1 h1 e2 m2 h2 a v g0 k gg : Nat} {eS eR : Nat → Nat} {val rval : Nat → Vl} (A1 : ATI S (bS + n) ob1 ns1 nc1 nf1 f i e1 m1 h1 (nI a) 42) (A2 : ATI R (bR + n) ob2 ns2 nc2 nf2 f i e2 m2 h2 (nI a) 42) (hf1 : f < nf1) (hf2 : f < nf2) (hRC : RC M S 18 (bS + n) ns1) (gc : mI M 18 7 = nI 42) (r1 : mI S 69 71 = nI 0) (r2 : mI R 69 71 = nI 1) (hs : Sat S R bS bR n eS eR ob1 ob2 v val rval) (hv5 : v < 500) (g8 : mI R 69 78 = nI g0) (hg : g0 + 4 ≤ 120) (hgd : d_X12_guards (nI 42) R = some ((), G)) (hgf : GDF R G g0 k gg) (hF : d_X12_executes (lnR G k f i) = some ((), F)) : TRS M S G F bS bR g0 v eS eR := by
  obtain ⟨g1, gl, gq, hk⟩ := tg_42 A1 A2 hRC gc hs hv5 g8 hg hgd 
  refine ⟨g1, gl, gq, hk.imp (fun z S2 E hq hE => ?_)⟩
  have hB2 : SB S S2 := by
    rcases hq with rfl | ⟨V, rfl⟩
    · exact SB.refl _
    · exact rk_sb _ _
  have hBG : SB R (lnR G k f i) := hgf.sb
  have B1 := ati_fr A1 hB2 hf1
  have B2 := ati_fr A2 hBG hf2
  have hs2 := sat_fr (sat_ln (k := k) (f := f) (i := i) z.1) hB2
  have s := hB2.1
  have g := hBG.1
  have r5 : ∀ p, mI S2 105 p = mI S 105 p := fun p => s 105 p (by omega) (by omega)
  have r6 : ∀ p, mI S2 106 p = mI S 106 p := fun p => s 106 p (by omega) (by omega)
  have r7 : ∀ p, mD S2 107 p = mD S 107 p := fun p => hB2.2.1 107 p (by omega)
  have q5 : ∀ p, mI (lnR G k f i) 105 p = mI R 105 p := fun p => g 105 p (by omega) (by omega)
  have q6 : ∀ p, mI (lnR G k f i) 106 p = mI R 106 p := fun p => g 106 p (by omega) (by omega)
  have q7 : ∀ p, mD (lnR G k f i) 107 p = mD R 107 p := fun p => hBG.2.1 107 p (by omega)
  exact sq_mul B1 B2 ((s 69 71 (by omega) (by omega)).trans r1) ((g 69 71 (by omega) (by omega)).trans r2) hv5 hE hF hs2 (fun tS tR y1 y2 => by simp only [r5, r6, r7, q5, q6, q7]; exact z.2 tS tR y1 y2)
theorem tr_47 {M S R G F : Mem} {bS bR n ob1 ns1 nc1 nf1 ob2 ns2 nc2 nf2 f i e1 m1 h1 e2 m2 h2 a v g0 k gg : Nat} {eS eR : Nat → Nat} {val rval : Nat → Vl} (A1 : ATI S (bS + n) ob1 ns1 nc1 nf1 f i e1 m1 h1 (nI a) 47) (A2 : ATI R (bR + n) ob2 ns2 nc2 nf2 f i e2 m2 h2 (nI a) 47) (hf1 : f < nf1) (hf2 : f < nf2) (hRC : RC M S 18 (bS + n) ns1) (gc : mI M 18 7 = nI 47) (r1 : mI S 69 71 = nI 0) (r2 : mI R 69 71 = nI 1) (hs : Sat S R bS bR n eS eR ob1 ob2 v val rval) (hv5 : v < 500) (g8 : mI R 69 78 = nI g0) (hg : g0 + 4 ≤ 120) (hgd : d_X12_guards (nI 47) R = some ((), G)) (hgf : GDF R G g0 k gg) (hF : d_X12_executes (lnR G k f i) = some ((), F)) : TRS M S G F bS bR g0 v eS eR := by
  obtain ⟨g1, gl, gq, hk⟩ := tg_47 A1 A2 hRC gc hs hv5 g8 hg hgd 
  refine ⟨g1, gl, gq, hk.imp (fun z S2 E hq hE => ?_)⟩
  have hB2 : SB S S2 := by
    rcases hq with rfl | ⟨V, rfl⟩
    · exact SB.refl _
    · exact rk_sb _ _
  have hBG : SB R (lnR G k f i) := hgf.sb
  have B1 := ati_fr A1 hB2 hf1
  have B2 := ati_fr A2 hBG hf2
  have hs2 := sat_fr (sat_ln (k := k) (f := f) (i := i) z.1) hB2
  have s := hB2.1
  have g := hBG.1
  have r5 : ∀ p, mI S2 105 p = mI S 105 p := fun p => s 105 p (by omega) (by omega)
  have r6 : ∀ p, mI S2 106 p = mI S 106 p := fun p => s 106 p (by omega) (by omega)
  have r7 : ∀ p, mD S2 107 p = mD S 107 p := fun p => hB2.2.1 107 p (by omega)
  have q5 : ∀ p, mI (lnR G k f i) 105 p = mI R 105 p := fun p => g 105 p (by omega) (by omega)
  have q6 : ∀ p, mI (lnR G k f i) 106 p = mI R 106 p := fun p => g 106 p (by omega) (by omega)
  have q7 : ∀ p, mD (lnR G k f i) 107 p = mD R 107 p := fun p => hBG.2.1 107 p (by omega)
  exact sq_div B1 B2 ((s 69 71 (by omega) (by omega)).trans r1) ((g 69 71 (by omega) (by omega)).trans r2) hv5 hE hF hs2 (fun tS tR y1 y2 => by simp only [r5, r6, r7, q5, q6, q7]; exact z.2 tS tR y1 y2)
theorem tr_37 {M S R G F : Mem} {bS bR n ob1 ns1 nc1 nf1 ob2 ns2 nc2 nf2 f i e1 m1 h1 e2 m2 h2 a v g0 k gg : Nat} {eS eR : Nat → Nat} {val rval : Nat → Vl} (A1 : ATI S (bS + n) ob1 ns1 nc1 nf1 f i e1 m1 h1 (nI a) 37) (A2 : ATI R (bR + n) ob2 ns2 nc2 nf2 f i e2 m2 h2 (nI a) 37) (hf1 : f < nf1) (hf2 : f < nf2) (hRC : RC M S 18 (bS + n) ns1) (gc : mI M 18 7 = nI 37) (r1 : mI S 69 71 = nI 0) (r2 : mI R 69 71 = nI 1) (hs : Sat S R bS bR n eS eR ob1 ob2 v val rval) (hv5 : v < 500) (g8 : mI R 69 78 = nI g0) (hg : g0 + 4 ≤ 120) (hgd : d_X12_guards (nI 37) R = some ((), G)) (hgf : GDF R G g0 k gg) (hF : d_X12_executes (lnR G k f i) = some ((), F)) : TRS M S G F bS bR g0 v eS eR := by
  obtain ⟨g1, gl, gq, hk⟩ := tg_37 A1 A2 hRC gc hs hv5 g8 hg hgd 
  refine ⟨g1, gl, gq, hk.imp (fun z S2 E hq hE => ?_)⟩
  have hB2 : SB S S2 := by
    rcases hq with rfl | ⟨V, rfl⟩
    · exact SB.refl _
    · exact rk_sb _ _
  have hBG : SB R (lnR G k f i) := hgf.sb
  have B1 := ati_fr A1 hB2 hf1
  have B2 := ati_fr A2 hBG hf2
  have hs2 := sat_fr (sat_ln (k := k) (f := f) (i := i) z.1) hB2
  have s := hB2.1
  have g := hBG.1
  have r5 : ∀ p, mI S2 105 p = mI S 105 p := fun p => s 105 p (by omega) (by omega)
  have r6 : ∀ p, mI S2 106 p = mI S 106 p := fun p => s 106 p (by omega) (by omega)
  have r7 : ∀ p, mD S2 107 p = mD S 107 p := fun p => hB2.2.1 107 p (by omega)
  have q5 : ∀ p, mI (lnR G k f i) 105 p = mI R 105 p := fun p => g 105 p (by omega) (by omega)
  have q6 : ∀ p, mI (lnR G k f i) 106 p = mI R 106 p := fun p => g 106 p (by omega) (by omega)
  have q7 : ∀ p, mD (lnR G k f i) 107 p = mD R 107 p := fun p => hBG.2.1 107 p (by omega)
  exact sq_rem B1 B2 ((s 69 71 (by omega) (by omega)).trans r1) ((g 69 71 (by omega) (by omega)).trans r2) hv5 hE hF hs2 (fun tS tR y1 y2 => by simp only [r5, r6, r7, q5, q6, q7]; exact z.2 tS tR y1 y2)
theorem tr_60 {M S R G F : Mem} {bS bR n ob1 ns1 nc1 nf1 ob2 ns2 nc2 nf2 f i e1 m1 h1 e2 m2 h2 a v g0 k gg : Nat} {eS eR : Nat → Nat} {val rval : Nat → Vl} (A1 : ATI S (bS + n) ob1 ns1 nc1 nf1 f i e1 m1 h1 (nI a) 60) (A2 : ATI R (bR + n) ob2 ns2 nc2 nf2 f i e2 m2 h2 (nI a) 60) (hf1 : f < nf1) (hf2 : f < nf2) (hRC : RC M S 18 (bS + n) ns1) (gc : mI M 18 7 = nI 60) (r1 : mI S 69 71 = nI 0) (r2 : mI R 69 71 = nI 1) (hs : Sat S R bS bR n eS eR ob1 ob2 v val rval) (hv5 : v < 500) (g8 : mI R 69 78 = nI g0) (hg : g0 + 4 ≤ 120) (hgd : d_X12_guards (nI 60) R = some ((), G)) (hgf : GDF R G g0 k gg) (hF : d_X12_executes (lnR G k f i) = some ((), F)) : TRS M S G F bS bR g0 v eS eR := by
  obtain ⟨g1, gl, gq, hk⟩ := tg_60 A1 A2 hRC gc hs hv5 g8 hg hgd 
  refine ⟨g1, gl, gq, hk.imp (fun z S2 E hq hE => ?_)⟩
  have hB2 : SB S S2 := by
    rcases hq with rfl | ⟨V, rfl⟩
    · exact SB.refl _
    · exact rk_sb _ _
  have hBG : SB R (lnR G k f i) := hgf.sb
  have B1 := ati_fr A1 hB2 hf1
  have B2 := ati_fr A2 hBG hf2
  have hs2 := sat_fr (sat_ln (k := k) (f := f) (i := i) z.1) hB2
  have s := hB2.1
  have g := hBG.1
  have r5 : ∀ p, mI S2 105 p = mI S 105 p := fun p => s 105 p (by omega) (by omega)
  have r6 : ∀ p, mI S2 106 p = mI S 106 p := fun p => s 106 p (by omega) (by omega)
  have r7 : ∀ p, mD S2 107 p = mD S 107 p := fun p => hB2.2.1 107 p (by omega)
  have q5 : ∀ p, mI (lnR G k f i) 105 p = mI R 105 p := fun p => g 105 p (by omega) (by omega)
  have q6 : ∀ p, mI (lnR G k f i) 106 p = mI R 106 p := fun p => g 106 p (by omega) (by omega)
  have q7 : ∀ p, mD (lnR G k f i) 107 p = mD R 107 p := fun p => hBG.2.1 107 p (by omega)
  exact sq_lt B1 B2 ((s 69 71 (by omega) (by omega)).trans r1) ((g 69 71 (by omega) (by omega)).trans r2) hv5 hE hF hs2 (fun tS tR y1 y2 => by simp only [r5, r6, r7, q5, q6, q7]; exact z.2 tS tR y1 y2)
theorem tr_61 {M S R G F : Mem} {bS bR n ob1 ns1 nc1 nf1 ob2 ns2 nc2 nf2 f i e1 m1 h1 e2 m2 h2 a v g0 k gg : Nat} {eS eR : Nat → Nat} {val rval : Nat → Vl} (A1 : ATI S (bS + n) ob1 ns1 nc1 nf1 f i e1 m1 h1 (nI a) 61) (A2 : ATI R (bR + n) ob2 ns2 nc2 nf2 f i e2 m2 h2 (nI a) 61) (hf1 : f < nf1) (hf2 : f < nf2) (hRC : RC M S 18 (bS + n) ns1) (gc : mI M 18 7 = nI 61) (r1 : mI S 69 71 = nI 0) (r2 : mI R 69 71 = nI 1) (hs : Sat S R bS bR n eS eR ob1 ob2 v val rval) (hv5 : v < 500) (g8 : mI R 69 78 = nI g0) (hg : g0 + 4 ≤ 120) (hgd : d_X12_guards (nI 61) R = some ((), G)) (hgf : GDF R G g0 k gg) (hF : d_X12_executes (lnR G k f i) = some ((), F)) : TRS M S G F bS bR g0 v eS eR := by
  obtain ⟨g1, gl, gq, hk⟩ := tg_61 A1 A2 hRC gc hs hv5 g8 hg hgd 
  refine ⟨g1, gl, gq, hk.imp (fun z S2 E hq hE => ?_)⟩
  have hB2 : SB S S2 := by
    rcases hq with rfl | ⟨V, rfl⟩
    · exact SB.refl _
    · exact rk_sb _ _
  have hBG : SB R (lnR G k f i) := hgf.sb
  have B1 := ati_fr A1 hB2 hf1
  have B2 := ati_fr A2 hBG hf2
  have hs2 := sat_fr (sat_ln (k := k) (f := f) (i := i) z.1) hB2
  have s := hB2.1
  have g := hBG.1
  have r5 : ∀ p, mI S2 105 p = mI S 105 p := fun p => s 105 p (by omega) (by omega)
  have r6 : ∀ p, mI S2 106 p = mI S 106 p := fun p => s 106 p (by omega) (by omega)
  have r7 : ∀ p, mD S2 107 p = mD S 107 p := fun p => hB2.2.1 107 p (by omega)
  have q5 : ∀ p, mI (lnR G k f i) 105 p = mI R 105 p := fun p => g 105 p (by omega) (by omega)
  have q6 : ∀ p, mI (lnR G k f i) 106 p = mI R 106 p := fun p => g 106 p (by omega) (by omega)
  have q7 : ∀ p, mD (lnR G k f i) 107 p = mD R 107 p := fun p => hBG.2.1 107 p (by omega)
  exact sq_eq B1 B2 ((s 69 71 (by omega) (by omega)).trans r1) ((g 69 71 (by omega) (by omega)).trans r2) hv5 hE hF hs2 (fun tS tR y1 y2 => by simp only [r5, r6, r7, q5, q6, q7]; exact z.2 tS tR y1 y2)
end MK2
