def w_L_law__23 (E : zEv) (D K : Nat) (post : Int32 → zM → Prop) (px : String → zM → Prop) (k : Nat) (y4 : Int32) (M : zM) : Prop := Z E jL_law_ (D + 1) K (zQi post px) 23 k [.ref 400, .ref 19, .ref 0, .ref 18, .int y4, zU, zU] [] M
def w_L_law__3090 (E : zEv) (D K : Nat) (post : Int32 → zM → Prop) (px : String → zM → Prop) (k : Nat) (y4 : Int32) (M : zM) : Prop := Z E jL_law_ (D + 1) K (zQi post px) 3090 k [.ref 400, .ref 19, .ref 0, .ref 18, .int y4, zU, zU] [] M
def w_L_law__427 (E : zEv) (D K : Nat) (post : Int32 → zM → Prop) (px : String → zM → Prop) (k : Nat) (y4 : Int32) (M : zM) : Prop := Z E jL_law_ (D + 1) K (zQi post px) 427 k [.ref 400, .ref 19, .ref 0, .ref 18, .int y4, zU, zU] [] M
def w_L_law__471 (E : zEv) (D K : Nat) (post : Int32 → zM → Prop) (px : String → zM → Prop) (k : Nat) (y4 : Int32) (M : zM) : Prop := Z E jL_law_ (D + 1) K (zQi post px) 471 k [.ref 400, .ref 19, .ref 0, .ref 18, .int y4, zU, zU] [] M
def w_L_law__552 (E : zEv) (D K : Nat) (post : Int32 → zM → Prop) (px : String → zM → Prop) (k : Nat) (y4 : Int32) (M : zM) : Prop := Z E jL_law_ (D + 1) K (zQi post px) 552 k [.ref 400, .ref 19, .ref 0, .ref 18, .int y4, zU, zU] [] M
def w_L_law__620 (E : zEv) (D K : Nat) (post : Int32 → zM → Prop) (px : String → zM → Prop) (k : Nat) (y4 : Int32) (M : zM) : Prop := Z E jL_law_ (D + 1) K (zQi post px) 620 k [.ref 400, .ref 19, .ref 0, .ref 18, .int y4, zU, zU] [] M
def w_L_law__676 (E : zEv) (D K : Nat) (post : Int32 → zM → Prop) (px : String → zM → Prop) (k : Nat) (y4 : Int32) (M : zM) : Prop := Z E jL_law_ (D + 1) K (zQi post px) 676 k [.ref 400, .ref 19, .ref 0, .ref 18, .int y4, zU, zU] [] M
def w_L_law__732 (E : zEv) (D K : Nat) (post : Int32 → zM → Prop) (px : String → zM → Prop) (k : Nat) (y4 : Int32) (M : zM) : Prop := Z E jL_law_ (D + 1) K (zQi post px) 732 k [.ref 400, .ref 19, .ref 0, .ref 18, .int y4, zU, zU] [] M
def w_L_law__788 (E : zEv) (D K : Nat) (post : Int32 → zM → Prop) (px : String → zM → Prop) (k : Nat) (y4 : Int32) (M : zM) : Prop := Z E jL_law_ (D + 1) K (zQi post px) 788 k [.ref 400, .ref 19, .ref 0, .ref 18, .int y4, zU, zU] [] M
def w_L_law__844 (E : zEv) (D K : Nat) (post : Int32 → zM → Prop) (px : String → zM → Prop) (k : Nat) (y4 : Int32) (M : zM) : Prop := Z E jL_law_ (D + 1) K (zQi post px) 844 k [.ref 400, .ref 19, .ref 0, .ref 18, .int y4, zU, zU] [] M
def w_L_law__900 (E : zEv) (D K : Nat) (post : Int32 → zM → Prop) (px : String → zM → Prop) (k : Nat) (y4 : Int32) (M : zM) : Prop := Z E jL_law_ (D + 1) K (zQi post px) 900 k [.ref 400, .ref 19, .ref 0, .ref 18, .int y4, zU, zU] [] M
def w_L_law__968 (E : zEv) (D K : Nat) (post : Int32 → zM → Prop) (px : String → zM → Prop) (k : Nat) (y4 : Int32) (M : zM) : Prop := Z E jL_law_ (D + 1) K (zQi post px) 968 k [.ref 400, .ref 19, .ref 0, .ref 18, .int y4, zU, zU] [] M
def w_L_law__1036 (E : zEv) (D K : Nat) (post : Int32 → zM → Prop) (px : String → zM → Prop) (k : Nat) (y4 : Int32) (M : zM) : Prop := Z E jL_law_ (D + 1) K (zQi post px) 1036 k [.ref 400, .ref 19, .ref 0, .ref 18, .int y4, zU, zU] [] M
def w_L_law__1092 (E : zEv) (D K : Nat) (post : Int32 → zM → Prop) (px : String → zM → Prop) (k : Nat) (y4 : Int32) (M : zM) : Prop := Z E jL_law_ (D + 1) K (zQi post px) 1092 k [.ref 400, .ref 19, .ref 0, .ref 18, .int y4, zU, zU] [] M
def w_L_law__1116 (E : zEv) (D K : Nat) (post : Int32 → zM → Prop) (px : String → zM → Prop) (k : Nat) (y4 : Int32) (s0 : Int32) (s1 : Int32) (M : zM) : Prop := Z E jL_law_ (D + 1) K (zQi post px) 1116 k [.ref 400, .ref 19, .ref 0, .ref 18, .int y4, zU, zU] [.int s0, .int s1, .ref 19] M
def w_L_law__1251 (E : zEv) (D K : Nat) (post : Int32 → zM → Prop) (px : String → zM → Prop) (k : Nat) (y4 : Int32) (M : zM) : Prop := Z E jL_law_ (D + 1) K (zQi post px) 1251 k [.ref 400, .ref 19, .ref 0, .ref 18, .int y4, zU, zU] [] M
def w_L_law__1307 (E : zEv) (D K : Nat) (post : Int32 → zM → Prop) (px : String → zM → Prop) (k : Nat) (y4 : Int32) (M : zM) : Prop := Z E jL_law_ (D + 1) K (zQi post px) 1307 k [.ref 400, .ref 19, .ref 0, .ref 18, .int y4, zU, zU] [] M
def w_L_law__1375 (E : zEv) (D K : Nat) (post : Int32 → zM → Prop) (px : String → zM → Prop) (k : Nat) (y4 : Int32) (M : zM) : Prop := Z E jL_law_ (D + 1) K (zQi post px) 1375 k [.ref 400, .ref 19, .ref 0, .ref 18, .int y4, zU, zU] [] M
def w_L_law__1443 (E : zEv) (D K : Nat) (post : Int32 → zM → Prop) (px : String → zM → Prop) (k : Nat) (y4 : Int32) (M : zM) : Prop := Z E jL_law_ (D + 1) K (zQi post px) 1443 k [.ref 400, .ref 19, .ref 0, .ref 18, .int y4, zU, zU] [] M
def w_L_law__1499 (E : zEv) (D K : Nat) (post : Int32 → zM → Prop) (px : String → zM → Prop) (k : Nat) (y4 : Int32) (M : zM) : Prop := Z E jL_law_ (D + 1) K (zQi post px) 1499 k [.ref 400, .ref 19, .ref 0, .ref 18, .int y4, zU, zU] [] M
def w_L_law__1567 (E : zEv) (D K : Nat) (post : Int32 → zM → Prop) (px : String → zM → Prop) (k : Nat) (y4 : Int32) (M : zM) : Prop := Z E jL_law_ (D + 1) K (zQi post px) 1567 k [.ref 400, .ref 19, .ref 0, .ref 18, .int y4, zU, zU] [] M
def w_L_law__1650 (E : zEv) (D K : Nat) (post : Int32 → zM → Prop) (px : String → zM → Prop) (k : Nat) (y4 : Int32) (M : zM) : Prop := Z E jL_law_ (D + 1) K (zQi post px) 1650 k [.ref 400, .ref 19, .ref 0, .ref 18, .int y4, zU, zU] [] M
def w_L_law__1694 (E : zEv) (D K : Nat) (post : Int32 → zM → Prop) (px : String → zM → Prop) (k : Nat) (y4 : Int32) (M : zM) : Prop := Z E jL_law_ (D + 1) K (zQi post px) 1694 k [.ref 400, .ref 19, .ref 0, .ref 18, .int y4, zU, zU] [] M
def w_L_law__1738 (E : zEv) (D K : Nat) (post : Int32 → zM → Prop) (px : String → zM → Prop) (k : Nat) (y4 : Int32) (M : zM) : Prop := Z E jL_law_ (D + 1) K (zQi post px) 1738 k [.ref 400, .ref 19, .ref 0, .ref 18, .int y4, zU, zU] [] M
def w_L_law__1782 (E : zEv) (D K : Nat) (post : Int32 → zM → Prop) (px : String → zM → Prop) (k : Nat) (y4 : Int32) (M : zM) : Prop := Z E jL_law_ (D + 1) K (zQi post px) 1782 k [.ref 400, .ref 19, .ref 0, .ref 18, .int y4, zU, zU] [] M
def w_L_law__1851 (E : zEv) (D K : Nat) (post : Int32 → zM → Prop) (px : String → zM → Prop) (k : Nat) (y4 : Int32) (M : zM) : Prop := Z E jL_law_ (D + 1) K (zQi post px) 1851 k [.ref 400, .ref 19, .ref 0, .ref 18, .int y4, zU, zU] [] M
def w_L_law__1907 (E : zEv) (D K : Nat) (post : Int32 → zM → Prop) (px : String → zM → Prop) (k : Nat) (y4 : Int32) (M : zM) : Prop := Z E jL_law_ (D + 1) K (zQi post px) 1907 k [.ref 400, .ref 19, .ref 0, .ref 18, .int y4, zU, zU] [] M
def w_L_law__1963 (E : zEv) (D K : Nat) (post : Int32 → zM → Prop) (px : String → zM → Prop) (k : Nat) (y4 : Int32) (M : zM) : Prop := Z E jL_law_ (D + 1) K (zQi post px) 1963 k [.ref 400, .ref 19, .ref 0, .ref 18, .int y4, zU, zU] [] M
def w_L_law__2031 (E : zEv) (D K : Nat) (post : Int32 → zM → Prop) (px : String → zM → Prop) (k : Nat) (y4 : Int32) (M : zM) : Prop := Z E jL_law_ (D + 1) K (zQi post px) 2031 k [.ref 400, .ref 19, .ref 0, .ref 18, .int y4, zU, zU] [] M
def w_L_law__2075 (E : zEv) (D K : Nat) (post : Int32 → zM → Prop) (px : String → zM → Prop) (k : Nat) (y4 : Int32) (M : zM) : Prop := Z E jL_law_ (D + 1) K (zQi post px) 2075 k [.ref 400, .ref 19, .ref 0, .ref 18, .int y4, zU, zU] [] M
def w_L_law__2131 (E : zEv) (D K : Nat) (post : Int32 → zM → Prop) (px : String → zM → Prop) (k : Nat) (y4 : Int32) (M : zM) : Prop := Z E jL_law_ (D + 1) K (zQi post px) 2131 k [.ref 400, .ref 19, .ref 0, .ref 18, .int y4, zU, zU] [] M
def w_L_law__2199 (E : zEv) (D K : Nat) (post : Int32 → zM → Prop) (px : String → zM → Prop) (k : Nat) (y4 : Int32) (M : zM) : Prop := Z E jL_law_ (D + 1) K (zQi post px) 2199 k [.ref 400, .ref 19, .ref 0, .ref 18, .int y4, zU, zU] [] M
def w_L_law__2274 (E : zEv) (D K : Nat) (post : Int32 → zM → Prop) (px : String → zM → Prop) (k : Nat) (y4 : Int32) (M : zM) : Prop := Z E jL_law_ (D + 1) K (zQi post px) 2274 k [.ref 400, .ref 19, .ref 0, .ref 18, .int y4, zU, zU] [] M
def w_L_law__2268 (E : zEv) (D K : Nat) (post : Int32 → zM → Prop) (px : String → zM → Prop) (k : Nat) (y4 : Int32) (s0 : Int64) (s1 : Int64) (M : zM) : Prop := Z E jL_law_ (D + 1) K (zQi post px) 2268 k [.ref 400, .ref 19, .ref 0, .ref 18, .int y4, zU, zU] [.long s0, .long s1] M
def w_L_law__2343 (E : zEv) (D K : Nat) (post : Int32 → zM → Prop) (px : String → zM → Prop) (k : Nat) (y4 : Int32) (M : zM) : Prop := Z E jL_law_ (D + 1) K (zQi post px) 2343 k [.ref 400, .ref 19, .ref 0, .ref 18, .int y4, zU, zU] [] M
def w_L_law__2411 (E : zEv) (D K : Nat) (post : Int32 → zM → Prop) (px : String → zM → Prop) (k : Nat) (y4 : Int32) (M : zM) : Prop := Z E jL_law_ (D + 1) K (zQi post px) 2411 k [.ref 400, .ref 19, .ref 0, .ref 18, .int y4, zU, zU] [] M
def w_L_law__2492 (E : zEv) (D K : Nat) (post : Int32 → zM → Prop) (px : String → zM → Prop) (k : Nat) (y4 : Int32) (M : zM) : Prop := Z E jL_law_ (D + 1) K (zQi post px) 2492 k [.ref 400, .ref 19, .ref 0, .ref 18, .int y4, zU, zU] [] M
def w_L_law__2560 (E : zEv) (D K : Nat) (post : Int32 → zM → Prop) (px : String → zM → Prop) (k : Nat) (y4 : Int32) (M : zM) : Prop := Z E jL_law_ (D + 1) K (zQi post px) 2560 k [.ref 400, .ref 19, .ref 0, .ref 18, .int y4, zU, zU] [] M
def w_L_law__2680 (E : zEv) (D K : Nat) (post : Int32 → zM → Prop) (px : String → zM → Prop) (k : Nat) (y4 : Int32) (M : zM) : Prop := Z E jL_law_ (D + 1) K (zQi post px) 2680 k [.ref 400, .ref 19, .ref 0, .ref 18, .int y4, zU, zU] [] M
def w_L_law__2704 (E : zEv) (D K : Nat) (post : Int32 → zM → Prop) (px : String → zM → Prop) (k : Nat) (y4 : Int32) (s0 : Int32) (s1 : Int32) (M : zM) : Prop := Z E jL_law_ (D + 1) K (zQi post px) 2704 k [.ref 400, .ref 19, .ref 0, .ref 18, .int y4, zU, zU] [.int s0, .int s1, .ref 19] M
def w_L_law__2788 (E : zEv) (D K : Nat) (post : Int32 → zM → Prop) (px : String → zM → Prop) (k : Nat) (y4 : Int32) (s0 : Int32) (s1 : Int32) (M : zM) : Prop := Z E jL_law_ (D + 1) K (zQi post px) 2788 k [.ref 400, .ref 19, .ref 0, .ref 18, .int y4, zU, zU] [.int s0, .int s1, .ref 19] M
def w_L_law__2872 (E : zEv) (D K : Nat) (post : Int32 → zM → Prop) (px : String → zM → Prop) (k : Nat) (y4 : Int32) (s0 : Int32) (s1 : Int32) (M : zM) : Prop := Z E jL_law_ (D + 1) K (zQi post px) 2872 k [.ref 400, .ref 19, .ref 0, .ref 18, .int y4, zU, zU] [.int s0, .int s1, .ref 19] M
def w_L_law__3000 (E : zEv) (D K : Nat) (post : Int32 → zM → Prop) (px : String → zM → Prop) (k : Nat) (y4 : Int32) (M : zM) : Prop := Z E jL_law_ (D + 1) K (zQi post px) 3000 k [.ref 400, .ref 19, .ref 0, .ref 18, .int y4, zU, zU] [] M
def w_L_law__1143 (E : zEv) (D K : Nat) (post : Int32 → zM → Prop) (px : String → zM → Prop) (k : Nat) (y4 : Int32) (y5 : Int32) (s0 : Int32) (s1 : Int32) (M : zM) : Prop := Z E jL_law_ (D + 1) K (zQi post px) 1143 k [.ref 400, .ref 19, .ref 0, .ref 18, .int y4, .int y5, zU] [.int s0, .int s1, .ref 0] M
def w_L_law__2731 (E : zEv) (D K : Nat) (post : Int32 → zM → Prop) (px : String → zM → Prop) (k : Nat) (y4 : Int32) (y5 : Int32) (s0 : Int32) (s1 : Int32) (M : zM) : Prop := Z E jL_law_ (D + 1) K (zQi post px) 2731 k [.ref 400, .ref 19, .ref 0, .ref 18, .int y4, .int y5, zU] [.int s0, .int s1, .ref 0] M
def w_L_law__2815 (E : zEv) (D K : Nat) (post : Int32 → zM → Prop) (px : String → zM → Prop) (k : Nat) (y4 : Int32) (y5 : Int32) (s0 : Int32) (s1 : Int32) (M : zM) : Prop := Z E jL_law_ (D + 1) K (zQi post px) 2815 k [.ref 400, .ref 19, .ref 0, .ref 18, .int y4, .int y5, zU] [.int s0, .int s1, .ref 0] M
def w_L_law__2899 (E : zEv) (D K : Nat) (post : Int32 → zM → Prop) (px : String → zM → Prop) (k : Nat) (y4 : Int32) (y5 : Int32) (s0 : Int32) (s1 : Int32) (M : zM) : Prop := Z E jL_law_ (D + 1) K (zQi post px) 2899 k [.ref 400, .ref 19, .ref 0, .ref 18, .int y4, .int y5, zU] [.int s0, .int s1, .ref 0] M
def w_L_law__1183 (E : zEv) (D K : Nat) (post : Int32 → zM → Prop) (px : String → zM → Prop) (k : Nat) (y4 : Int32) (M : zM) : Prop := Z E jL_law_ (D + 1) K (zQi post px) 1183 k [.ref 400, .ref 19, .ref 0, .ref 18, .int y4, zU, zU] [] M
def w_L_law__1177 (E : zEv) (D K : Nat) (post : Int32 → zM → Prop) (px : String → zM → Prop) (k : Nat) (y4 : Int32) (s0 : Int64) (s1 : Int64) (M : zM) : Prop := Z E jL_law_ (D + 1) K (zQi post px) 1177 k [.ref 400, .ref 19, .ref 0, .ref 18, .int y4, zU, zU] [.long s0, .long s1] M
def w_L_law__2764 (E : zEv) (D K : Nat) (post : Int32 → zM → Prop) (px : String → zM → Prop) (k : Nat) (y4 : Int32) (M : zM) : Prop := Z E jL_law_ (D + 1) K (zQi post px) 2764 k [.ref 400, .ref 19, .ref 0, .ref 18, .int y4, zU, zU] [] M
def w_L_law__2848 (E : zEv) (D K : Nat) (post : Int32 → zM → Prop) (px : String → zM → Prop) (k : Nat) (y4 : Int32) (M : zM) : Prop := Z E jL_law_ (D + 1) K (zQi post px) 2848 k [.ref 400, .ref 19, .ref 0, .ref 18, .int y4, zU, zU] [] M
def w_L_law__2932 (E : zEv) (D K : Nat) (post : Int32 → zM → Prop) (px : String → zM → Prop) (k : Nat) (y4 : Int32) (M : zM) : Prop := Z E jL_law_ (D + 1) K (zQi post px) 2932 k [.ref 400, .ref 19, .ref 0, .ref 18, .int y4, zU, zU] [] M
set_option maxRecDepth 20000 in
set_option maxHeartbeats 40000000 in
theorem t_L_law__23 {E : zEv} {D K k : Nat} {post : Int32 → zM → Prop} {px : String → zM → Prop} {M : zM} {y4 : Int32} (hk : k + 4 ≤ K) (h : ((((Int32.ofNat (zLn E)) - (6 : Int32)) < y4 → post (1 : Int32) M) ∧ (¬ ((Int32.ofNat (zLn E)) - (6 : Int32)) < y4 → vp_in y4 (zLn E) ∧ ((((zxs E (y4).toNatClampNeg) &&& (63 : Int32)) = (0 : Int32) → vp_in (y4 + (1 : Int32)) (zLn E) ∧ vp_in (y4 + (2 : Int32)) (zLn E) ∧ vp_in (y4 + (3 : Int32)) (zLn E) ∧ vp_in (y4 + (4 : Int32)) (zLn E) ∧ vp_in (y4 + (5 : Int32)) (zLn E) ∧ zCi E jX11_feed D 0 [.ref 19, .int (zxs E ((y4 + (1 : Int32))).toNatClampNeg), .int (zxs E ((y4 + (2 : Int32))).toNatClampNeg), .int (zxs E ((y4 + (3 : Int32))).toNatClampNeg), .int (zxs E ((y4 + (4 : Int32))).toNatClampNeg), .int (zxs E ((y4 + (5 : Int32))).toNatClampNeg)] M (fun r20 M18 => vp_in (y4 + (1 : Int32)) (zLn E) ∧ vp_in (y4 + (2 : Int32)) (zLn E) ∧ vp_in (y4 + (3 : Int32)) (zLn E) ∧ vp_in (y4 + (4 : Int32)) (zLn E) ∧ vp_in (y4 + (5 : Int32)) (zLn E) ∧ zCi E jX12_feed D 0 [.ref 0, .int (zxs E ((y4 + (1 : Int32))).toNatClampNeg), .int (zxs E ((y4 + (2 : Int32))).toNatClampNeg), .int (zxs E ((y4 + (3 : Int32))).toNatClampNeg), .int (zxs E ((y4 + (4 : Int32))).toNatClampNeg), .int (zxs E ((y4 + (5 : Int32))).toNatClampNeg)] M18 (fun r33 M31 => ((r20 = r33 → w_L_law__3090 E D K post px k y4 M31) ∧ (¬ r20 = r33 → post (0 : Int32) M31))) px) px) ∧ (¬ ((zxs E (y4).toNatClampNeg) &&& (63 : Int32)) = (0 : Int32) → ((((zxs E (y4).toNatClampNeg) &&& (63 : Int32)) = (1 : Int32) → vp_in (y4 + (1 : Int32)) (zLn E) ∧ zCi E jX11_end D 0 [.ref 19, .int (zxs E ((y4 + (1 : Int32))).toNatClampNeg)] M (fun r44 M42 => vp_in (y4 + (1 : Int32)) (zLn E) ∧ zCi E jX12_end D 0 [.ref 0, .int (zxs E ((y4 + (1 : Int32))).toNatClampNeg)] M42 (fun r49 M47 => ((r44 = r49 → w_L_law__3090 E D K post px k y4 M47) ∧ (¬ r44 = r49 → post (0 : Int32) M47))) px) px) ∧ (¬ ((zxs E (y4).toNatClampNeg) &&& (63 : Int32)) = (1 : Int32) → ((((zxs E (y4).toNatClampNeg) &&& (63 : Int32)) = (2 : Int32) → zCWi E jL_court D 1 [.ref 19, .ref 18] M (fun r58 M56 => zCi E jX12_court D 0 [.ref 0] M56 (fun r61 M59 => zCi E jX12_thrown D 0 [.ref 0] M59 (fun r64 M62 => ((r64 = r58 → ((¬ r58 = 0 → w_L_law__427 E D K post px (k + 1) y4 M62) ∧ (r58 = 0 → (((lg_cmp (M62.2 18 ((0 : Int32)).toNatClampNeg) ((r61).toInt64)) = 0 → w_L_law__427 E D K post px (k + 1) y4 M62) ∧ (¬ (lg_cmp (M62.2 18 ((0 : Int32)).toNatClampNeg) ((r61).toInt64)) = 0 → post (0 : Int32) M62))))) ∧ (¬ r64 = r58 → post (0 : Int32) M62))) px) px)) ∧ (¬ ((zxs E (y4).toNatClampNeg) &&& (63 : Int32)) = (2 : Int32) → ((((zxs E (y4).toNatClampNeg) &&& (63 : Int32)) = (3 : Int32) → zCWi E jL_law D 1 [.ref 19, .ref 18] M (fun r79 M77 => zCi E jX12_law D 0 [.ref 0] M77 (fun r82 M80 => zCi E jX12_thrown D 0 [.ref 0] M80 (fun r85 M83 => ((r85 = r79 → ((¬ r79 = 0 → w_L_law__471 E D K post px (k + 1) y4 M83) ∧ (r79 = 0 → (((lg_cmp (M83.2 18 ((0 : Int32)).toNatClampNeg) ((r82).toInt64)) = 0 → w_L_law__471 E D K post px (k + 1) y4 M83) ∧ (¬ (lg_cmp (M83.2 18 ((0 : Int32)).toNatClampNeg) ((r82).toInt64)) = 0 → post (0 : Int32) M83))))) ∧ (¬ r85 = r79 → post (0 : Int32) M83))) px) px)) ∧ (¬ ((zxs E (y4).toNatClampNeg) &&& (63 : Int32)) = (3 : Int32) → ((((zxs E (y4).toNatClampNeg) &&& (63 : Int32)) = (4 : Int32) → zCi E jX11_fault D 0 [.ref 19] M (fun r100 M98 => zCi E jX12_fault D 0 [.ref 0] M98 (fun r103 M101 => ((r100 = r103 → w_L_law__3090 E D K post px k y4 M101) ∧ (¬ r100 = r103 → post (0 : Int32) M101))) px) px) ∧ (¬ ((zxs E (y4).toNatClampNeg) &&& (63 : Int32)) = (4 : Int32) → ((((zxs E (y4).toNatClampNeg) &&& (63 : Int32)) = (5 : Int32) → vp_in (y4 + (1 : Int32)) (zLn E) ∧ vp_in (y4 + (2 : Int32)) (zLn E) ∧ zCWi E jL_witness D 2 [.ref 19, .int (zxs E ((y4 + (1 : Int32))).toNatClampNeg), .int (zxs E ((y4 + (2 : Int32))).toNatClampNeg), .ref 18] M (fun r116 M114 => vp_in (y4 + (1 : Int32)) (zLn E) ∧ vp_in (y4 + (2 : Int32)) (zLn E) ∧ zCi E jX12_witness D 0 [.ref 0, .int (zxs E ((y4 + (1 : Int32))).toNatClampNeg), .int (zxs E ((y4 + (2 : Int32))).toNatClampNeg)] M114 (fun r123 M121 => zCi E jX12_thrown D 0 [.ref 0] M121 (fun r126 M124 => ((r126 = r116 → ((¬ r116 = 0 → w_L_law__552 E D K post px (k + 2) y4 M124) ∧ (r116 = 0 → (((lg_cmp (M124.2 18 ((0 : Int32)).toNatClampNeg) ((r123).toInt64)) = 0 → w_L_law__552 E D K post px (k + 2) y4 M124) ∧ (¬ (lg_cmp (M124.2 18 ((0 : Int32)).toNatClampNeg) ((r123).toInt64)) = 0 → post (0 : Int32) M124))))) ∧ (¬ r126 = r116 → post (0 : Int32) M124))) px) px)) ∧ (¬ ((zxs E (y4).toNatClampNeg) &&& (63 : Int32)) = (5 : Int32) → ((((zxs E (y4).toNatClampNeg) &&& (63 : Int32)) = (6 : Int32) → vp_in (y4 + (1 : Int32)) (zLn E) ∧ vp_in (y4 + (2 : Int32)) (zLn E) ∧ zCWi E jL_thing D 2 [.ref 19, .int (zxs E ((y4 + (1 : Int32))).toNatClampNeg), .int (zxs E ((y4 + (2 : Int32))).toNatClampNeg), .ref 18] M (fun r145 M143 => vp_in (y4 + (1 : Int32)) (zLn E) ∧ vp_in (y4 + (2 : Int32)) (zLn E) ∧ zCi E jX12_thing D 0 [.ref 0, .int (zxs E ((y4 + (1 : Int32))).toNatClampNeg), .int (zxs E ((y4 + (2 : Int32))).toNatClampNeg)] M143 (fun r152 M150 => zCi E jX12_thrown D 0 [.ref 0] M150 (fun r155 M153 => ((r155 = r145 → ((¬ r145 = 0 → w_L_law__620 E D K post px (k + 2) y4 M153) ∧ (r145 = 0 → (((lg_cmp (M153.2 18 ((0 : Int32)).toNatClampNeg) ((r152).toInt64)) = 0 → w_L_law__620 E D K post px (k + 2) y4 M153) ∧ (¬ (lg_cmp (M153.2 18 ((0 : Int32)).toNatClampNeg) ((r152).toInt64)) = 0 → post (0 : Int32) M153))))) ∧ (¬ r155 = r145 → post (0 : Int32) M153))) px) px)) ∧ (¬ ((zxs E (y4).toNatClampNeg) &&& (63 : Int32)) = (6 : Int32) → ((((zxs E (y4).toNatClampNeg) &&& (63 : Int32)) = (7 : Int32) → vp_in (y4 + (1 : Int32)) (zLn E) ∧ zCWi E jL_asks D 1 [.ref 19, .int (zxs E ((y4 + (1 : Int32))).toNatClampNeg), .ref 18] M (fun r172 M170 => vp_in (y4 + (1 : Int32)) (zLn E) ∧ zCi E jX12_asks D 0 [.ref 0, .int (zxs E ((y4 + (1 : Int32))).toNatClampNeg)] M170 (fun r177 M175 => zCi E jX12_thrown D 0 [.ref 0] M175 (fun r180 M178 => ((r180 = r172 → ((¬ r172 = 0 → w_L_law__676 E D K post px (k + 1) y4 M178) ∧ (r172 = 0 → (((lg_cmp (M178.2 18 ((0 : Int32)).toNatClampNeg) ((r177).toInt64)) = 0 → w_L_law__676 E D K post px (k + 1) y4 M178) ∧ (¬ (lg_cmp (M178.2 18 ((0 : Int32)).toNatClampNeg) ((r177).toInt64)) = 0 → post (0 : Int32) M178))))) ∧ (¬ r180 = r172 → post (0 : Int32) M178))) px) px)) ∧ (¬ ((zxs E (y4).toNatClampNeg) &&& (63 : Int32)) = (7 : Int32) → ((((zxs E (y4).toNatClampNeg) &&& (63 : Int32)) = (8 : Int32) → vp_in (y4 + (1 : Int32)) (zLn E) ∧ zCWi E jL_sharp D 1 [.ref 19, .int (zxs E ((y4 + (1 : Int32))).toNatClampNeg), .ref 18] M (fun r197 M195 => vp_in (y4 + (1 : Int32)) (zLn E) ∧ zCi E jX12_sharp D 0 [.ref 0, .int (zxs E ((y4 + (1 : Int32))).toNatClampNeg)] M195 (fun r202 M200 => zCi E jX12_thrown D 0 [.ref 0] M200 (fun r205 M203 => ((r205 = r197 → ((¬ r197 = 0 → w_L_law__732 E D K post px (k + 1) y4 M203) ∧ (r197 = 0 → (((lg_cmp (M203.2 18 ((0 : Int32)).toNatClampNeg) ((r202).toInt64)) = 0 → w_L_law__732 E D K post px (k + 1) y4 M203) ∧ (¬ (lg_cmp (M203.2 18 ((0 : Int32)).toNatClampNeg) ((r202).toInt64)) = 0 → post (0 : Int32) M203))))) ∧ (¬ r205 = r197 → post (0 : Int32) M203))) px) px)) ∧ (¬ ((zxs E (y4).toNatClampNeg) &&& (63 : Int32)) = (8 : Int32) → ((((zxs E (y4).toNatClampNeg) &&& (63 : Int32)) = (9 : Int32) → vp_in (y4 + (1 : Int32)) (zLn E) ∧ zCWi E jL_stands D 1 [.ref 19, .int (zxs E ((y4 + (1 : Int32))).toNatClampNeg), .ref 18] M (fun r222 M220 => vp_in (y4 + (1 : Int32)) (zLn E) ∧ zCi E jX12_stands D 0 [.ref 0, .int (zxs E ((y4 + (1 : Int32))).toNatClampNeg)] M220 (fun r227 M225 => zCi E jX12_thrown D 0 [.ref 0] M225 (fun r230 M228 => ((r230 = r222 → ((¬ r222 = 0 → w_L_law__788 E D K post px (k + 1) y4 M228) ∧ (r222 = 0 → (((lg_cmp (M228.2 18 ((0 : Int32)).toNatClampNeg) ((r227).toInt64)) = 0 → w_L_law__788 E D K post px (k + 1) y4 M228) ∧ (¬ (lg_cmp (M228.2 18 ((0 : Int32)).toNatClampNeg) ((r227).toInt64)) = 0 → post (0 : Int32) M228))))) ∧ (¬ r230 = r222 → post (0 : Int32) M228))) px) px)) ∧ (¬ ((zxs E (y4).toNatClampNeg) &&& (63 : Int32)) = (9 : Int32) → ((((zxs E (y4).toNatClampNeg) &&& (63 : Int32)) = (10 : Int32) → vp_in (y4 + (1 : Int32)) (zLn E) ∧ zCWi E jL_moments D 1 [.ref 19, .int (zxs E ((y4 + (1 : Int32))).toNatClampNeg), .ref 18] M (fun r247 M245 => vp_in (y4 + (1 : Int32)) (zLn E) ∧ zCi E jX12_moments D 0 [.ref 0, .int (zxs E ((y4 + (1 : Int32))).toNatClampNeg)] M245 (fun r252 M250 => zCi E jX12_thrown D 0 [.ref 0] M250 (fun r255 M253 => ((r255 = r247 → ((¬ r247 = 0 → w_L_law__844 E D K post px (k + 1) y4 M253) ∧ (r247 = 0 → (((lg_cmp (M253.2 18 ((0 : Int32)).toNatClampNeg) ((r252).toInt64)) = 0 → w_L_law__844 E D K post px (k + 1) y4 M253) ∧ (¬ (lg_cmp (M253.2 18 ((0 : Int32)).toNatClampNeg) ((r252).toInt64)) = 0 → post (0 : Int32) M253))))) ∧ (¬ r255 = r247 → post (0 : Int32) M253))) px) px)) ∧ (¬ ((zxs E (y4).toNatClampNeg) &&& (63 : Int32)) = (10 : Int32) → ((((zxs E (y4).toNatClampNeg) &&& (63 : Int32)) = (11 : Int32) → vp_in (y4 + (1 : Int32)) (zLn E) ∧ zCWi E jL_say D 1 [.ref 19, .int (zxs E ((y4 + (1 : Int32))).toNatClampNeg), .ref 18] M (fun r272 M270 => vp_in (y4 + (1 : Int32)) (zLn E) ∧ zCi E jX12_say D 0 [.ref 0, .int (zxs E ((y4 + (1 : Int32))).toNatClampNeg)] M270 (fun r277 M275 => zCi E jX12_thrown D 0 [.ref 0] M275 (fun r280 M278 => ((r280 = r272 → ((¬ r272 = 0 → w_L_law__900 E D K post px (k + 1) y4 M278) ∧ (r272 = 0 → (((lg_cmp (M278.2 18 ((0 : Int32)).toNatClampNeg) ((r277).toInt64)) = 0 → w_L_law__900 E D K post px (k + 1) y4 M278) ∧ (¬ (lg_cmp (M278.2 18 ((0 : Int32)).toNatClampNeg) ((r277).toInt64)) = 0 → post (0 : Int32) M278))))) ∧ (¬ r280 = r272 → post (0 : Int32) M278))) px) px)) ∧ (¬ ((zxs E (y4).toNatClampNeg) &&& (63 : Int32)) = (11 : Int32) → ((((zxs E (y4).toNatClampNeg) &&& (63 : Int32)) = (12 : Int32) → vp_in (y4 + (1 : Int32)) (zLn E) ∧ vp_in (y4 + (2 : Int32)) (zLn E) ∧ zCWi E jL_change D 3 [.ref 19, .int (zxs E ((y4 + (1 : Int32))).toNatClampNeg), .int (zxs E ((y4 + (2 : Int32))).toNatClampNeg), .ref 18] M (fun r299 M297 => vp_in (y4 + (1 : Int32)) (zLn E) ∧ vp_in (y4 + (2 : Int32)) (zLn E) ∧ zCi E jX12_change D 0 [.ref 0, .int (zxs E ((y4 + (1 : Int32))).toNatClampNeg), .int (zxs E ((y4 + (2 : Int32))).toNatClampNeg)] M297 (fun r306 M304 => zCi E jX12_thrown D 0 [.ref 0] M304 (fun r309 M307 => ((r309 = r299 → ((¬ r299 = 0 → w_L_law__968 E D K post px (k + 3) y4 M307) ∧ (r299 = 0 → (((lg_cmp (M307.2 18 ((0 : Int32)).toNatClampNeg) ((r306).toInt64)) = 0 → w_L_law__968 E D K post px (k + 3) y4 M307) ∧ (¬ (lg_cmp (M307.2 18 ((0 : Int32)).toNatClampNeg) ((r306).toInt64)) = 0 → post (0 : Int32) M307))))) ∧ (¬ r309 = r299 → post (0 : Int32) M307))) px) px)) ∧ (¬ ((zxs E (y4).toNatClampNeg) &&& (63 : Int32)) = (12 : Int32) → ((((zxs E (y4).toNatClampNeg) &&& (63 : Int32)) = (13 : Int32) → vp_in (y4 + (1 : Int32)) (zLn E) ∧ vp_in (y4 + (2 : Int32)) (zLn E) ∧ zCWi E jL_drink D 2 [.ref 19, .int (zxs E ((y4 + (1 : Int32))).toNatClampNeg), .int (zxs E ((y4 + (2 : Int32))).toNatClampNeg), .ref 18] M (fun r328 M326 => vp_in (y4 + (1 : Int32)) (zLn E) ∧ vp_in (y4 + (2 : Int32)) (zLn E) ∧ zCi E jX12_drink D 0 [.ref 0, .int (zxs E ((y4 + (1 : Int32))).toNatClampNeg), .int (zxs E ((y4 + (2 : Int32))).toNatClampNeg)] M326 (fun r335 M333 => zCi E jX12_thrown D 0 [.ref 0] M333 (fun r338 M336 => ((r338 = r328 → ((¬ r328 = 0 → w_L_law__1036 E D K post px (k + 2) y4 M336) ∧ (r328 = 0 → (((lg_cmp (M336.2 18 ((0 : Int32)).toNatClampNeg) ((r335).toInt64)) = 0 → w_L_law__1036 E D K post px (k + 2) y4 M336) ∧ (¬ (lg_cmp (M336.2 18 ((0 : Int32)).toNatClampNeg) ((r335).toInt64)) = 0 → post (0 : Int32) M336))))) ∧ (¬ r338 = r328 → post (0 : Int32) M336))) px) px)) ∧ (¬ ((zxs E (y4).toNatClampNeg) &&& (63 : Int32)) = (13 : Int32) → ((((zxs E (y4).toNatClampNeg) &&& (63 : Int32)) = (14 : Int32) → vp_in (y4 + (1 : Int32)) (zLn E) ∧ zCWi E jL_heat D 1 [.ref 19, .int (zxs E ((y4 + (1 : Int32))).toNatClampNeg), .ref 18] M (fun r355 M353 => vp_in (y4 + (1 : Int32)) (zLn E) ∧ zCi E jX12_heat D 0 [.ref 0, .int (zxs E ((y4 + (1 : Int32))).toNatClampNeg)] M353 (fun r360 M358 => zCi E jX12_thrown D 0 [.ref 0] M358 (fun r363 M361 => ((r363 = r355 → ((¬ r355 = 0 → w_L_law__1092 E D K post px (k + 1) y4 M361) ∧ (r355 = 0 → (((lg_cmp (M361.2 18 ((0 : Int32)).toNatClampNeg) ((r360).toInt64)) = 0 → w_L_law__1092 E D K post px (k + 1) y4 M361) ∧ (¬ (lg_cmp (M361.2 18 ((0 : Int32)).toNatClampNeg) ((r360).toInt64)) = 0 → post (0 : Int32) M361))))) ∧ (¬ r363 = r355 → post (0 : Int32) M361))) px) px)) ∧ (¬ ((zxs E (y4).toNatClampNeg) &&& (63 : Int32)) = (14 : Int32) → ((((zxs E (y4).toNatClampNeg) &&& (63 : Int32)) = (15 : Int32) → vp_in (y4 + (1 : Int32)) (zLn E) ∧ vp_in (y4 + (2 : Int32)) (zLn E) ∧ (((zxs E ((y4 + (2 : Int32))).toNatClampNeg) = 0 → w_L_law__1116 E D K post px k y4 (0 : Int32) (zxs E ((y4 + (1 : Int32))).toNatClampNeg) M) ∧ (¬ (zxs E ((y4 + (2 : Int32))).toNatClampNeg) = 0 → w_L_law__1116 E D K post px k y4 (1 : Int32) (zxs E ((y4 + (1 : Int32))).toNatClampNeg) M))) ∧ (¬ ((zxs E (y4).toNatClampNeg) &&& (63 : Int32)) = (15 : Int32) → ((((zxs E (y4).toNatClampNeg) &&& (63 : Int32)) = (16 : Int32) → vp_in (y4 + (1 : Int32)) (zLn E) ∧ vp_in (y4 + (2 : Int32)) (zLn E) ∧ zCWi E jL_words D 2 [.ref 19, .int (zxs E ((y4 + (1 : Int32))).toNatClampNeg), .int (zxs E ((y4 + (2 : Int32))).toNatClampNeg), .ref 18] M (fun r392 M390 => vp_in (y4 + (1 : Int32)) (zLn E) ∧ vp_in (y4 + (2 : Int32)) (zLn E) ∧ zCi E jX12_words D 0 [.ref 0, .int (zxs E ((y4 + (1 : Int32))).toNatClampNeg), .int (zxs E ((y4 + (2 : Int32))).toNatClampNeg)] M390 (fun r399 M397 => zCi E jX12_thrown D 0 [.ref 0] M397 (fun r402 M400 => ((r402 = r392 → ((¬ r392 = 0 → w_L_law__1251 E D K post px (k + 2) y4 M400) ∧ (r392 = 0 → (((lg_cmp (M400.2 18 ((0 : Int32)).toNatClampNeg) ((r399).toInt64)) = 0 → w_L_law__1251 E D K post px (k + 2) y4 M400) ∧ (¬ (lg_cmp (M400.2 18 ((0 : Int32)).toNatClampNeg) ((r399).toInt64)) = 0 → post (0 : Int32) M400))))) ∧ (¬ r402 = r392 → post (0 : Int32) M400))) px) px)) ∧ (¬ ((zxs E (y4).toNatClampNeg) &&& (63 : Int32)) = (16 : Int32) → ((((zxs E (y4).toNatClampNeg) &&& (63 : Int32)) = (17 : Int32) → vp_in (y4 + (1 : Int32)) (zLn E) ∧ zCWi E jL_powder D 1 [.ref 19, .int (zxs E ((y4 + (1 : Int32))).toNatClampNeg), .ref 18] M (fun r419 M417 => vp_in (y4 + (1 : Int32)) (zLn E) ∧ zCi E jX12_powder D 0 [.ref 0, .int (zxs E ((y4 + (1 : Int32))).toNatClampNeg)] M417 (fun r424 M422 => zCi E jX12_thrown D 0 [.ref 0] M422 (fun r427 M425 => ((r427 = r419 → ((¬ r419 = 0 → w_L_law__1307 E D K post px (k + 1) y4 M425) ∧ (r419 = 0 → (((lg_cmp (M425.2 18 ((0 : Int32)).toNatClampNeg) ((r424).toInt64)) = 0 → w_L_law__1307 E D K post px (k + 1) y4 M425) ∧ (¬ (lg_cmp (M425.2 18 ((0 : Int32)).toNatClampNeg) ((r424).toInt64)) = 0 → post (0 : Int32) M425))))) ∧ (¬ r427 = r419 → post (0 : Int32) M425))) px) px)) ∧ (¬ ((zxs E (y4).toNatClampNeg) &&& (63 : Int32)) = (17 : Int32) → ((((zxs E (y4).toNatClampNeg) &&& (63 : Int32)) = (18 : Int32) → vp_in (y4 + (1 : Int32)) (zLn E) ∧ vp_in (y4 + (2 : Int32)) (zLn E) ∧ zCWi E jL_rises D 2 [.ref 19, .int (zxs E ((y4 + (1 : Int32))).toNatClampNeg), .int (zxs E ((y4 + (2 : Int32))).toNatClampNeg), .ref 18] M (fun r446 M444 => vp_in (y4 + (1 : Int32)) (zLn E) ∧ vp_in (y4 + (2 : Int32)) (zLn E) ∧ zCi E jX12_rises D 0 [.ref 0, .int (zxs E ((y4 + (1 : Int32))).toNatClampNeg), .int (zxs E ((y4 + (2 : Int32))).toNatClampNeg)] M444 (fun r453 M451 => zCi E jX12_thrown D 0 [.ref 0] M451 (fun r456 M454 => ((r456 = r446 → ((¬ r446 = 0 → w_L_law__1375 E D K post px (k + 2) y4 M454) ∧ (r446 = 0 → (((lg_cmp (M454.2 18 ((0 : Int32)).toNatClampNeg) ((r453).toInt64)) = 0 → w_L_law__1375 E D K post px (k + 2) y4 M454) ∧ (¬ (lg_cmp (M454.2 18 ((0 : Int32)).toNatClampNeg) ((r453).toInt64)) = 0 → post (0 : Int32) M454))))) ∧ (¬ r456 = r446 → post (0 : Int32) M454))) px) px)) ∧ (¬ ((zxs E (y4).toNatClampNeg) &&& (63 : Int32)) = (18 : Int32) → ((((zxs E (y4).toNatClampNeg) &&& (63 : Int32)) = (19 : Int32) → vp_in (y4 + (1 : Int32)) (zLn E) ∧ vp_in (y4 + (2 : Int32)) (zLn E) ∧ zCWi E jL_seen D 2 [.ref 19, .int (zxs E ((y4 + (1 : Int32))).toNatClampNeg), .int (zxs E ((y4 + (2 : Int32))).toNatClampNeg), .ref 18] M (fun r475 M473 => vp_in (y4 + (1 : Int32)) (zLn E) ∧ vp_in (y4 + (2 : Int32)) (zLn E) ∧ zCi E jX12_seen D 0 [.ref 0, .int (zxs E ((y4 + (1 : Int32))).toNatClampNeg), .int (zxs E ((y4 + (2 : Int32))).toNatClampNeg)] M473 (fun r482 M480 => zCi E jX12_thrown D 0 [.ref 0] M480 (fun r485 M483 => ((r485 = r475 → ((¬ r475 = 0 → w_L_law__1443 E D K post px (k + 2) y4 M483) ∧ (r475 = 0 → (((lg_cmp (M483.2 18 ((0 : Int32)).toNatClampNeg) ((r482).toInt64)) = 0 → w_L_law__1443 E D K post px (k + 2) y4 M483) ∧ (¬ (lg_cmp (M483.2 18 ((0 : Int32)).toNatClampNeg) ((r482).toInt64)) = 0 → post (0 : Int32) M483))))) ∧ (¬ r485 = r475 → post (0 : Int32) M483))) px) px)) ∧ (¬ ((zxs E (y4).toNatClampNeg) &&& (63 : Int32)) = (19 : Int32) → ((((zxs E (y4).toNatClampNeg) &&& (63 : Int32)) = (20 : Int32) → vp_in (y4 + (1 : Int32)) (zLn E) ∧ zCWi E jL_gives D 1 [.ref 19, .int (zxs E ((y4 + (1 : Int32))).toNatClampNeg), .ref 18] M (fun r502 M500 => vp_in (y4 + (1 : Int32)) (zLn E) ∧ zCi E jX12_gives D 0 [.ref 0, .int (zxs E ((y4 + (1 : Int32))).toNatClampNeg)] M500 (fun r507 M505 => zCi E jX12_thrown D 0 [.ref 0] M505 (fun r510 M508 => ((r510 = r502 → ((¬ r502 = 0 → w_L_law__1499 E D K post px (k + 1) y4 M508) ∧ (r502 = 0 → (((lg_cmp (M508.2 18 ((0 : Int32)).toNatClampNeg) ((r507).toInt64)) = 0 → w_L_law__1499 E D K post px (k + 1) y4 M508) ∧ (¬ (lg_cmp (M508.2 18 ((0 : Int32)).toNatClampNeg) ((r507).toInt64)) = 0 → post (0 : Int32) M508))))) ∧ (¬ r510 = r502 → post (0 : Int32) M508))) px) px)) ∧ (¬ ((zxs E (y4).toNatClampNeg) &&& (63 : Int32)) = (20 : Int32) → ((((zxs E (y4).toNatClampNeg) &&& (63 : Int32)) = (21 : Int32) → vp_in (y4 + (1 : Int32)) (zLn E) ∧ vp_in (y4 + (2 : Int32)) (zLn E) ∧ zCWi E jL_writes D 2 [.ref 19, .int (zxs E ((y4 + (1 : Int32))).toNatClampNeg), .int (zxs E ((y4 + (2 : Int32))).toNatClampNeg), .ref 18] M (fun r529 M527 => vp_in (y4 + (1 : Int32)) (zLn E) ∧ vp_in (y4 + (2 : Int32)) (zLn E) ∧ zCi E jX12_writes D 0 [.ref 0, .int (zxs E ((y4 + (1 : Int32))).toNatClampNeg), .int (zxs E ((y4 + (2 : Int32))).toNatClampNeg)] M527 (fun r536 M534 => zCi E jX12_thrown D 0 [.ref 0] M534 (fun r539 M537 => ((r539 = r529 → ((¬ r529 = 0 → w_L_law__1567 E D K post px (k + 2) y4 M537) ∧ (r529 = 0 → (((lg_cmp (M537.2 18 ((0 : Int32)).toNatClampNeg) ((r536).toInt64)) = 0 → w_L_law__1567 E D K post px (k + 2) y4 M537) ∧ (¬ (lg_cmp (M537.2 18 ((0 : Int32)).toNatClampNeg) ((r536).toInt64)) = 0 → post (0 : Int32) M537))))) ∧ (¬ r539 = r529 → post (0 : Int32) M537))) px) px)) ∧ (¬ ((zxs E (y4).toNatClampNeg) &&& (63 : Int32)) = (21 : Int32) → ((((zxs E (y4).toNatClampNeg) &&& (63 : Int32)) = (22 : Int32) → zCi E jX11_pale D 0 [.ref 19] M (fun r554 M552 => zCi E jX12_pale D 0 [.ref 0] M552 (fun r557 M555 => ((r554 = r557 → w_L_law__3090 E D K post px k y4 M555) ∧ (¬ r554 = r557 → post (0 : Int32) M555))) px) px) ∧ (¬ ((zxs E (y4).toNatClampNeg) &&& (63 : Int32)) = (22 : Int32) → ((((zxs E (y4).toNatClampNeg) &&& (63 : Int32)) = (23 : Int32) → zCi E jX11_reddest D 0 [.ref 19] M (fun r566 M564 => zCi E jX12_reddest D 0 [.ref 0] M564 (fun r569 M567 => ((r566 = r569 → w_L_law__3090 E D K post px k y4 M567) ∧ (¬ r566 = r569 → post (0 : Int32) M567))) px) px) ∧ (¬ ((zxs E (y4).toNatClampNeg) &&& (63 : Int32)) = (23 : Int32) → ((((zxs E (y4).toNatClampNeg) &&& (63 : Int32)) = (24 : Int32) → zCi E jX11_palest D 0 [.ref 19] M (fun r578 M576 => zCi E jX12_palest D 0 [.ref 0] M576 (fun r581 M579 => ((r578 = r581 → w_L_law__3090 E D K post px k y4 M579) ∧ (¬ r578 = r581 → post (0 : Int32) M579))) px) px) ∧ (¬ ((zxs E (y4).toNatClampNeg) &&& (63 : Int32)) = (24 : Int32) → ((((zxs E (y4).toNatClampNeg) &&& (63 : Int32)) = (25 : Int32) → zCWi E jL_fits D 1 [.ref 19, .ref 18] M (fun r590 M588 => zCi E jX12_fits D 0 [.ref 0] M588 (fun r593 M591 => zCi E jX12_thrown D 0 [.ref 0] M591 (fun r596 M594 => ((r596 = r590 → ((¬ r590 = 0 → w_L_law__1650 E D K post px (k + 1) y4 M594) ∧ (r590 = 0 → (((lg_cmp (M594.2 18 ((0 : Int32)).toNatClampNeg) ((r593).toInt64)) = 0 → w_L_law__1650 E D K post px (k + 1) y4 M594) ∧ (¬ (lg_cmp (M594.2 18 ((0 : Int32)).toNatClampNeg) ((r593).toInt64)) = 0 → post (0 : Int32) M594))))) ∧ (¬ r596 = r590 → post (0 : Int32) M594))) px) px)) ∧ (¬ ((zxs E (y4).toNatClampNeg) &&& (63 : Int32)) = (25 : Int32) → ((((zxs E (y4).toNatClampNeg) &&& (63 : Int32)) = (26 : Int32) → zCWi E jL_sure D 1 [.ref 19, .ref 18] M (fun r611 M609 => zCi E jX12_sure D 0 [.ref 0] M609 (fun r614 M612 => zCi E jX12_thrown D 0 [.ref 0] M612 (fun r617 M615 => ((r617 = r611 → ((¬ r611 = 0 → w_L_law__1694 E D K post px (k + 1) y4 M615) ∧ (r611 = 0 → (((lg_cmp (M615.2 18 ((0 : Int32)).toNatClampNeg) ((r614).toInt64)) = 0 → w_L_law__1694 E D K post px (k + 1) y4 M615) ∧ (¬ (lg_cmp (M615.2 18 ((0 : Int32)).toNatClampNeg) ((r614).toInt64)) = 0 → post (0 : Int32) M615))))) ∧ (¬ r617 = r611 → post (0 : Int32) M615))) px) px)) ∧ (¬ ((zxs E (y4).toNatClampNeg) &&& (63 : Int32)) = (26 : Int32) → ((((zxs E (y4).toNatClampNeg) &&& (63 : Int32)) = (27 : Int32) → zCWi E jL_never D 1 [.ref 19, .ref 18] M (fun r632 M630 => zCi E jX12_never D 0 [.ref 0] M630 (fun r635 M633 => zCi E jX12_thrown D 0 [.ref 0] M633 (fun r638 M636 => ((r638 = r632 → ((¬ r632 = 0 → w_L_law__1738 E D K post px (k + 1) y4 M636) ∧ (r632 = 0 → (((lg_cmp (M636.2 18 ((0 : Int32)).toNatClampNeg) ((r635).toInt64)) = 0 → w_L_law__1738 E D K post px (k + 1) y4 M636) ∧ (¬ (lg_cmp (M636.2 18 ((0 : Int32)).toNatClampNeg) ((r635).toInt64)) = 0 → post (0 : Int32) M636))))) ∧ (¬ r638 = r632 → post (0 : Int32) M636))) px) px)) ∧ (¬ ((zxs E (y4).toNatClampNeg) &&& (63 : Int32)) = (27 : Int32) → ((((zxs E (y4).toNatClampNeg) &&& (63 : Int32)) = (28 : Int32) → zCWi E jL_next D 1 [.ref 19, .ref 18] M (fun r653 M651 => zCi E jX12_next D 0 [.ref 0] M651 (fun r656 M654 => zCi E jX12_thrown D 0 [.ref 0] M654 (fun r659 M657 => ((r659 = r653 → ((¬ r653 = 0 → w_L_law__1782 E D K post px (k + 1) y4 M657) ∧ (r653 = 0 → (((lg_cmp (M657.2 18 ((0 : Int32)).toNatClampNeg) ((r656).toInt64)) = 0 → w_L_law__1782 E D K post px (k + 1) y4 M657) ∧ (¬ (lg_cmp (M657.2 18 ((0 : Int32)).toNatClampNeg) ((r656).toInt64)) = 0 → post (0 : Int32) M657))))) ∧ (¬ r659 = r653 → post (0 : Int32) M657))) px) px)) ∧ (¬ ((zxs E (y4).toNatClampNeg) &&& (63 : Int32)) = (28 : Int32) → ((((zxs E (y4).toNatClampNeg) &&& (63 : Int32)) = (29 : Int32) → zCi E jX11_dark D 0 [.ref 19] M (fun r674 M672 => zCi E jX12_dark D 0 [.ref 0] M672 (fun r677 M675 => ((r674 = r677 → w_L_law__3090 E D K post px k y4 M675) ∧ (¬ r674 = r677 → post (0 : Int32) M675))) px) px) ∧ (¬ ((zxs E (y4).toNatClampNeg) &&& (63 : Int32)) = (29 : Int32) → ((((zxs E (y4).toNatClampNeg) &&& (63 : Int32)) = (30 : Int32) → vp_in (y4 + (1 : Int32)) (zLn E) ∧ zCWi E jL_tells D 1 [.ref 19, .int (zxs E ((y4 + (1 : Int32))).toNatClampNeg), .ref 18] M (fun r688 M686 => vp_in (y4 + (1 : Int32)) (zLn E) ∧ zCi E jX12_tells D 0 [.ref 0, .int (zxs E ((y4 + (1 : Int32))).toNatClampNeg)] M686 (fun r693 M691 => zCi E jX12_thrown D 0 [.ref 0] M691 (fun r696 M694 => ((r696 = r688 → ((¬ r688 = 0 → w_L_law__1851 E D K post px (k + 1) y4 M694) ∧ (r688 = 0 → (((lg_cmp (M694.2 18 ((0 : Int32)).toNatClampNeg) ((r693).toInt64)) = 0 → w_L_law__1851 E D K post px (k + 1) y4 M694) ∧ (¬ (lg_cmp (M694.2 18 ((0 : Int32)).toNatClampNeg) ((r693).toInt64)) = 0 → post (0 : Int32) M694))))) ∧ (¬ r696 = r688 → post (0 : Int32) M694))) px) px)) ∧ (¬ ((zxs E (y4).toNatClampNeg) &&& (63 : Int32)) = (30 : Int32) → ((((zxs E (y4).toNatClampNeg) &&& (63 : Int32)) = (31 : Int32) → vp_in (y4 + (1 : Int32)) (zLn E) ∧ zCWi E jL_shared D 1 [.ref 19, .int (zxs E ((y4 + (1 : Int32))).toNatClampNeg), .ref 18] M (fun r713 M711 => vp_in (y4 + (1 : Int32)) (zLn E) ∧ zCi E jX12_shared D 0 [.ref 0, .int (zxs E ((y4 + (1 : Int32))).toNatClampNeg)] M711 (fun r718 M716 => zCi E jX12_thrown D 0 [.ref 0] M716 (fun r721 M719 => ((r721 = r713 → ((¬ r713 = 0 → w_L_law__1907 E D K post px (k + 1) y4 M719) ∧ (r713 = 0 → (((lg_cmp (M719.2 18 ((0 : Int32)).toNatClampNeg) ((r718).toInt64)) = 0 → w_L_law__1907 E D K post px (k + 1) y4 M719) ∧ (¬ (lg_cmp (M719.2 18 ((0 : Int32)).toNatClampNeg) ((r718).toInt64)) = 0 → post (0 : Int32) M719))))) ∧ (¬ r721 = r713 → post (0 : Int32) M719))) px) px)) ∧ (¬ ((zxs E (y4).toNatClampNeg) &&& (63 : Int32)) = (31 : Int32) → ((((zxs E (y4).toNatClampNeg) &&& (63 : Int32)) = (32 : Int32) → vp_in (y4 + (1 : Int32)) (zLn E) ∧ zCWi E jL_apart D 1 [.ref 19, .int (zxs E ((y4 + (1 : Int32))).toNatClampNeg), .ref 18] M (fun r738 M736 => vp_in (y4 + (1 : Int32)) (zLn E) ∧ zCi E jX12_apart D 0 [.ref 0, .int (zxs E ((y4 + (1 : Int32))).toNatClampNeg)] M736 (fun r743 M741 => zCi E jX12_thrown D 0 [.ref 0] M741 (fun r746 M744 => ((r746 = r738 → ((¬ r738 = 0 → w_L_law__1963 E D K post px (k + 1) y4 M744) ∧ (r738 = 0 → (((lg_cmp (M744.2 18 ((0 : Int32)).toNatClampNeg) ((r743).toInt64)) = 0 → w_L_law__1963 E D K post px (k + 1) y4 M744) ∧ (¬ (lg_cmp (M744.2 18 ((0 : Int32)).toNatClampNeg) ((r743).toInt64)) = 0 → post (0 : Int32) M744))))) ∧ (¬ r746 = r738 → post (0 : Int32) M744))) px) px)) ∧ (¬ ((zxs E (y4).toNatClampNeg) &&& (63 : Int32)) = (32 : Int32) → ((((zxs E (y4).toNatClampNeg) &&& (63 : Int32)) = (33 : Int32) → vp_in (y4 + (1 : Int32)) (zLn E) ∧ vp_in (y4 + (2 : Int32)) (zLn E) ∧ zCWi E jL_row D 2 [.ref 19, .int (zxs E ((y4 + (1 : Int32))).toNatClampNeg), .int (zxs E ((y4 + (2 : Int32))).toNatClampNeg), .ref 18] M (fun r765 M763 => vp_in (y4 + (1 : Int32)) (zLn E) ∧ vp_in (y4 + (2 : Int32)) (zLn E) ∧ zCi E jX12_row D 0 [.ref 0, .int (zxs E ((y4 + (1 : Int32))).toNatClampNeg), .int (zxs E ((y4 + (2 : Int32))).toNatClampNeg)] M763 (fun r772 M770 => zCi E jX12_thrown D 0 [.ref 0] M770 (fun r775 M773 => ((r775 = r765 → ((¬ r765 = 0 → w_L_law__2031 E D K post px (k + 2) y4 M773) ∧ (r765 = 0 → (((lg_cmp (M773.2 18 ((0 : Int32)).toNatClampNeg) ((r772).toInt64)) = 0 → w_L_law__2031 E D K post px (k + 2) y4 M773) ∧ (¬ (lg_cmp (M773.2 18 ((0 : Int32)).toNatClampNeg) ((r772).toInt64)) = 0 → post (0 : Int32) M773))))) ∧ (¬ r775 = r765 → post (0 : Int32) M773))) px) px)) ∧ (¬ ((zxs E (y4).toNatClampNeg) &&& (63 : Int32)) = (33 : Int32) → ((((zxs E (y4).toNatClampNeg) &&& (63 : Int32)) = (34 : Int32) → zCWi E jL_wrong D 1 [.ref 19, .ref 18] M (fun r790 M788 => zCi E jX12_wrong D 0 [.ref 0] M788 (fun r793 M791 => zCi E jX12_thrown D 0 [.ref 0] M791 (fun r796 M794 => ((r796 = r790 → ((¬ r790 = 0 → w_L_law__2075 E D K post px (k + 1) y4 M794) ∧ (r790 = 0 → (((lg_cmp (M794.2 18 ((0 : Int32)).toNatClampNeg) ((r793).toInt64)) = 0 → w_L_law__2075 E D K post px (k + 1) y4 M794) ∧ (¬ (lg_cmp (M794.2 18 ((0 : Int32)).toNatClampNeg) ((r793).toInt64)) = 0 → post (0 : Int32) M794))))) ∧ (¬ r796 = r790 → post (0 : Int32) M794))) px) px)) ∧ (¬ ((zxs E (y4).toNatClampNeg) &&& (63 : Int32)) = (34 : Int32) → ((((zxs E (y4).toNatClampNeg) &&& (63 : Int32)) = (35 : Int32) → vp_in (y4 + (1 : Int32)) (zLn E) ∧ zCWi E jL_shades D 2 [.ref 19, .int (zxs E ((y4 + (1 : Int32))).toNatClampNeg), .ref 18] M (fun r813 M811 => vp_in (y4 + (1 : Int32)) (zLn E) ∧ zCi E jX12_shades D 0 [.ref 0, .int (zxs E ((y4 + (1 : Int32))).toNatClampNeg)] M811 (fun r818 M816 => zCi E jX12_thrown D 0 [.ref 0] M816 (fun r821 M819 => ((r821 = r813 → ((¬ r813 = 0 → w_L_law__2131 E D K post px (k + 2) y4 M819) ∧ (r813 = 0 → (((lg_cmp (M819.2 18 ((0 : Int32)).toNatClampNeg) ((r818).toInt64)) = 0 → w_L_law__2131 E D K post px (k + 2) y4 M819) ∧ (¬ (lg_cmp (M819.2 18 ((0 : Int32)).toNatClampNeg) ((r818).toInt64)) = 0 → post (0 : Int32) M819))))) ∧ (¬ r821 = r813 → post (0 : Int32) M819))) px) px)) ∧ (¬ ((zxs E (y4).toNatClampNeg) &&& (63 : Int32)) = (35 : Int32) → ((((zxs E (y4).toNatClampNeg) &&& (63 : Int32)) = (36 : Int32) → vp_in (y4 + (1 : Int32)) (zLn E) ∧ vp_in (y4 + (2 : Int32)) (zLn E) ∧ zCWi E jL_vinegar D 2 [.ref 19, .int (zxs E ((y4 + (1 : Int32))).toNatClampNeg), .int (zxs E ((y4 + (2 : Int32))).toNatClampNeg), .ref 18] M (fun r840 M838 => vp_in (y4 + (1 : Int32)) (zLn E) ∧ vp_in (y4 + (2 : Int32)) (zLn E) ∧ zCi E jX12_vinegar D 0 [.ref 0, .int (zxs E ((y4 + (1 : Int32))).toNatClampNeg), .int (zxs E ((y4 + (2 : Int32))).toNatClampNeg)] M838 (fun r847 M845 => zCi E jX12_thrown D 0 [.ref 0] M845 (fun r850 M848 => ((r850 = r840 → ((¬ r840 = 0 → w_L_law__2199 E D K post px (k + 2) y4 M848) ∧ (r840 = 0 → (((lg_cmp (M848.2 18 ((0 : Int32)).toNatClampNeg) ((r847).toInt64)) = 0 → w_L_law__2199 E D K post px (k + 2) y4 M848) ∧ (¬ (lg_cmp (M848.2 18 ((0 : Int32)).toNatClampNeg) ((r847).toInt64)) = 0 → post (0 : Int32) M848))))) ∧ (¬ r850 = r840 → post (0 : Int32) M848))) px) px)) ∧ (¬ ((zxs E (y4).toNatClampNeg) &&& (63 : Int32)) = (36 : Int32) → ((((zxs E (y4).toNatClampNeg) &&& (63 : Int32)) = (37 : Int32) → vp_in (y4 + (1 : Int32)) (zLn E) ∧ vp_in (y4 + (2 : Int32)) (zLn E) ∧ zCWi E jL_betrays D 3 [.ref 19, .int (zxs E ((y4 + (1 : Int32))).toNatClampNeg), .int (zxs E ((y4 + (2 : Int32))).toNatClampNeg), .ref 18] M (fun r869 M867 => vp_in (y4 + (1 : Int32)) (zLn E) ∧ vp_in (y4 + (2 : Int32)) (zLn E) ∧ zCi E jX12_betrays D 0 [.ref 0, .int (zxs E ((y4 + (1 : Int32))).toNatClampNeg), .int (zxs E ((y4 + (2 : Int32))).toNatClampNeg)] M867 (fun r876 M874 => zCi E jX12_thrown D 0 [.ref 0] M874 (fun r879 M877 => ((r879 = r869 → ((¬ r869 = 0 → w_L_law__2274 E D K post px (k + 3) y4 M877) ∧ (r869 = 0 → ((r876 = 0 → w_L_law__2268 E D K post px (k + 3) y4 (0 : Int64) (M877.2 18 ((0 : Int32)).toNatClampNeg) M877) ∧ (¬ r876 = 0 → w_L_law__2268 E D K post px (k + 3) y4 (1 : Int64) (M877.2 18 ((0 : Int32)).toNatClampNeg) M877))))) ∧ (¬ r879 = r869 → post (0 : Int32) M877))) px) px)) ∧ (¬ ((zxs E (y4).toNatClampNeg) &&& (63 : Int32)) = (37 : Int32) → ((((zxs E (y4).toNatClampNeg) &&& (63 : Int32)) = (38 : Int32) → zCi E jX11_heats D 0 [.ref 19] M (fun r894 M892 => zCi E jX12_heats D 0 [.ref 0] M892 (fun r897 M895 => ((r894 = r897 → w_L_law__3090 E D K post px k y4 M895) ∧ (¬ r894 = r897 → post (0 : Int32) M895))) px) px) ∧ (¬ ((zxs E (y4).toNatClampNeg) &&& (63 : Int32)) = (38 : Int32) → ((((zxs E (y4).toNatClampNeg) &&& (63 : Int32)) = (39 : Int32) → vp_in (y4 + (1 : Int32)) (zLn E) ∧ zCWi E jL_couples D 1 [.ref 19, .int (zxs E ((y4 + (1 : Int32))).toNatClampNeg), .ref 18] M (fun r908 M906 => vp_in (y4 + (1 : Int32)) (zLn E) ∧ zCi E jX12_couples D 0 [.ref 0, .int (zxs E ((y4 + (1 : Int32))).toNatClampNeg)] M906 (fun r913 M911 => zCi E jX12_thrown D 0 [.ref 0] M911 (fun r916 M914 => ((r916 = r908 → ((¬ r908 = 0 → w_L_law__2343 E D K post px (k + 1) y4 M914) ∧ (r908 = 0 → (((lg_cmp (M914.2 18 ((0 : Int32)).toNatClampNeg) ((r913).toInt64)) = 0 → w_L_law__2343 E D K post px (k + 1) y4 M914) ∧ (¬ (lg_cmp (M914.2 18 ((0 : Int32)).toNatClampNeg) ((r913).toInt64)) = 0 → post (0 : Int32) M914))))) ∧ (¬ r916 = r908 → post (0 : Int32) M914))) px) px)) ∧ (¬ ((zxs E (y4).toNatClampNeg) &&& (63 : Int32)) = (39 : Int32) → ((((zxs E (y4).toNatClampNeg) &&& (63 : Int32)) = (40 : Int32) → vp_in (y4 + (1 : Int32)) (zLn E) ∧ vp_in (y4 + (2 : Int32)) (zLn E) ∧ zCWi E jL_between D 3 [.ref 19, .int (zxs E ((y4 + (1 : Int32))).toNatClampNeg), .int (zxs E ((y4 + (2 : Int32))).toNatClampNeg), .ref 18] M (fun r935 M933 => vp_in (y4 + (1 : Int32)) (zLn E) ∧ vp_in (y4 + (2 : Int32)) (zLn E) ∧ zCi E jX12_between D 0 [.ref 0, .int (zxs E ((y4 + (1 : Int32))).toNatClampNeg), .int (zxs E ((y4 + (2 : Int32))).toNatClampNeg)] M933 (fun r942 M940 => zCi E jX12_thrown D 0 [.ref 0] M940 (fun r945 M943 => ((r945 = r935 → ((¬ r935 = 0 → w_L_law__2411 E D K post px (k + 3) y4 M943) ∧ (r935 = 0 → (((lg_cmp (M943.2 18 ((0 : Int32)).toNatClampNeg) ((r942).toInt64)) = 0 → w_L_law__2411 E D K post px (k + 3) y4 M943) ∧ (¬ (lg_cmp (M943.2 18 ((0 : Int32)).toNatClampNeg) ((r942).toInt64)) = 0 → post (0 : Int32) M943))))) ∧ (¬ r945 = r935 → post (0 : Int32) M943))) px) px)) ∧ (¬ ((zxs E (y4).toNatClampNeg) &&& (63 : Int32)) = (40 : Int32) → ((((zxs E (y4).toNatClampNeg) &&& (63 : Int32)) = (41 : Int32) → zCi E jX11_alone D 0 [.ref 19] M (fun r960 M958 => zCi E jX12_alone D 0 [.ref 0] M958 (fun r963 M961 => ((r960 = r963 → w_L_law__3090 E D K post px k y4 M961) ∧ (¬ r960 = r963 → post (0 : Int32) M961))) px) px) ∧ (¬ ((zxs E (y4).toNatClampNeg) &&& (63 : Int32)) = (41 : Int32) → ((((zxs E (y4).toNatClampNeg) &&& (63 : Int32)) = (42 : Int32) → vp_in (y4 + (1 : Int32)) (zLn E) ∧ vp_in (y4 + (2 : Int32)) (zLn E) ∧ zCWi E jL_rests D 2 [.ref 19, .int (zxs E ((y4 + (1 : Int32))).toNatClampNeg), .int (zxs E ((y4 + (2 : Int32))).toNatClampNeg), .ref 18] M (fun r976 M974 => vp_in (y4 + (1 : Int32)) (zLn E) ∧ vp_in (y4 + (2 : Int32)) (zLn E) ∧ zCi E jX12_rests D 0 [.ref 0, .int (zxs E ((y4 + (1 : Int32))).toNatClampNeg), .int (zxs E ((y4 + (2 : Int32))).toNatClampNeg)] M974 (fun r983 M981 => zCi E jX12_thrown D 0 [.ref 0] M981 (fun r986 M984 => ((r986 = r976 → ((¬ r976 = 0 → w_L_law__2492 E D K post px (k + 2) y4 M984) ∧ (r976 = 0 → (((lg_cmp (M984.2 18 ((0 : Int32)).toNatClampNeg) ((r983).toInt64)) = 0 → w_L_law__2492 E D K post px (k + 2) y4 M984) ∧ (¬ (lg_cmp (M984.2 18 ((0 : Int32)).toNatClampNeg) ((r983).toInt64)) = 0 → post (0 : Int32) M984))))) ∧ (¬ r986 = r976 → post (0 : Int32) M984))) px) px)) ∧ (¬ ((zxs E (y4).toNatClampNeg) &&& (63 : Int32)) = (42 : Int32) → ((((zxs E (y4).toNatClampNeg) &&& (63 : Int32)) = (43 : Int32) → vp_in (y4 + (1 : Int32)) (zLn E) ∧ vp_in (y4 + (2 : Int32)) (zLn E) ∧ zCWi E jL_odds D 1 [.ref 19, .int (zxs E ((y4 + (1 : Int32))).toNatClampNeg), .int (zxs E ((y4 + (2 : Int32))).toNatClampNeg), .ref 18] M (fun r1005 M1003 => vp_in (y4 + (1 : Int32)) (zLn E) ∧ vp_in (y4 + (2 : Int32)) (zLn E) ∧ zCi E jX12_odds D 0 [.ref 0, .int (zxs E ((y4 + (1 : Int32))).toNatClampNeg), .int (zxs E ((y4 + (2 : Int32))).toNatClampNeg)] M1003 (fun r1012 M1010 => zCi E jX12_thrown D 0 [.ref 0] M1010 (fun r1015 M1013 => ((r1015 = r1005 → ((¬ r1005 = 0 → w_L_law__2560 E D K post px (k + 1) y4 M1013) ∧ (r1005 = 0 → (((lg_cmp (M1013.2 18 ((0 : Int32)).toNatClampNeg) ((r1012).toInt64)) = 0 → w_L_law__2560 E D K post px (k + 1) y4 M1013) ∧ (¬ (lg_cmp (M1013.2 18 ((0 : Int32)).toNatClampNeg) ((r1012).toInt64)) = 0 → post (0 : Int32) M1013))))) ∧ (¬ r1015 = r1005 → post (0 : Int32) M1013))) px) px)) ∧ (¬ ((zxs E (y4).toNatClampNeg) &&& (63 : Int32)) = (43 : Int32) → ((((zxs E (y4).toNatClampNeg) &&& (63 : Int32)) = (44 : Int32) → zCi E jX11_weightiest D 0 [.ref 19] M (fun r1030 M1028 => zCi E jX12_weightiest D 0 [.ref 0] M1028 (fun r1033 M1031 => ((r1030 = r1033 → w_L_law__3090 E D K post px k y4 M1031) ∧ (¬ r1030 = r1033 → post (0 : Int32) M1031))) px) px) ∧ (¬ ((zxs E (y4).toNatClampNeg) &&& (63 : Int32)) = (44 : Int32) → ((((zxs E (y4).toNatClampNeg) &&& (63 : Int32)) = (45 : Int32) → zCi E jX11_twins D 0 [.ref 19] M (fun r1042 M1040 => zCi E jX12_twins D 0 [.ref 0] M1040 (fun r1045 M1043 => ((r1042 = r1045 → w_L_law__3090 E D K post px k y4 M1043) ∧ (¬ r1042 = r1045 → post (0 : Int32) M1043))) px) px) ∧ (¬ ((zxs E (y4).toNatClampNeg) &&& (63 : Int32)) = (45 : Int32) → ((((zxs E (y4).toNatClampNeg) &&& (63 : Int32)) = (46 : Int32) → zCi E jX11_blind D 0 [.ref 19] M (fun r1054 M1052 => zCi E jX12_blind D 0 [.ref 0] M1052 (fun r1057 M1055 => ((r1054 = r1057 → w_L_law__3090 E D K post px k y4 M1055) ∧ (¬ r1054 = r1057 → post (0 : Int32) M1055))) px) px) ∧ (¬ ((zxs E (y4).toNatClampNeg) &&& (63 : Int32)) = (46 : Int32) → ((((zxs E (y4).toNatClampNeg) &&& (63 : Int32)) = (47 : Int32) → zCi E jX11_so D 0 [.ref 19] M (fun r1066 M1064 => zCi E jX12_so D 0 [.ref 0] M1064 (fun r1069 M1067 => ((r1066 = r1069 → w_L_law__3090 E D K post px k y4 M1067) ∧ (¬ r1066 = r1069 → post (0 : Int32) M1067))) px) px) ∧ (¬ ((zxs E (y4).toNatClampNeg) &&& (63 : Int32)) = (47 : Int32) → ((((zxs E (y4).toNatClampNeg) &&& (63 : Int32)) = (48 : Int32) → vp_in (y4 + (1 : Int32)) (zLn E) ∧ vp_in (y4 + (2 : Int32)) (zLn E) ∧ zCWi E jL_ahead D 2 [.ref 19, .int (zxs E ((y4 + (1 : Int32))).toNatClampNeg), .int (zxs E ((y4 + (2 : Int32))).toNatClampNeg), .ref 18] M (fun r1082 M1080 => vp_in (y4 + (1 : Int32)) (zLn E) ∧ vp_in (y4 + (2 : Int32)) (zLn E) ∧ zCi E jX12_ahead D 0 [.ref 0, .int (zxs E ((y4 + (1 : Int32))).toNatClampNeg), .int (zxs E ((y4 + (2 : Int32))).toNatClampNeg)] M1080 (fun r1089 M1087 => zCi E jX12_thrown D 0 [.ref 0] M1087 (fun r1092 M1090 => ((r1092 = r1082 → ((¬ r1082 = 0 → w_L_law__2680 E D K post px (k + 2) y4 M1090) ∧ (r1082 = 0 → (((lg_cmp (M1090.2 18 ((0 : Int32)).toNatClampNeg) ((r1089).toInt64)) = 0 → w_L_law__2680 E D K post px (k + 2) y4 M1090) ∧ (¬ (lg_cmp (M1090.2 18 ((0 : Int32)).toNatClampNeg) ((r1089).toInt64)) = 0 → post (0 : Int32) M1090))))) ∧ (¬ r1092 = r1082 → post (0 : Int32) M1090))) px) px)) ∧ (¬ ((zxs E (y4).toNatClampNeg) &&& (63 : Int32)) = (48 : Int32) → ((((zxs E (y4).toNatClampNeg) &&& (63 : Int32)) = (49 : Int32) → vp_in (y4 + (1 : Int32)) (zLn E) ∧ vp_in (y4 + (2 : Int32)) (zLn E) ∧ (((zxs E ((y4 + (2 : Int32))).toNatClampNeg) = 0 → w_L_law__2704 E D K post px k y4 (0 : Int32) (zxs E ((y4 + (1 : Int32))).toNatClampNeg) M) ∧ (¬ (zxs E ((y4 + (2 : Int32))).toNatClampNeg) = 0 → w_L_law__2704 E D K post px k y4 (1 : Int32) (zxs E ((y4 + (1 : Int32))).toNatClampNeg) M))) ∧ (¬ ((zxs E (y4).toNatClampNeg) &&& (63 : Int32)) = (49 : Int32) → ((((zxs E (y4).toNatClampNeg) &&& (63 : Int32)) = (50 : Int32) → vp_in (y4 + (1 : Int32)) (zLn E) ∧ vp_in (y4 + (2 : Int32)) (zLn E) ∧ (((zxs E ((y4 + (2 : Int32))).toNatClampNeg) = 0 → w_L_law__2788 E D K post px k y4 (0 : Int32) (zxs E ((y4 + (1 : Int32))).toNatClampNeg) M) ∧ (¬ (zxs E ((y4 + (2 : Int32))).toNatClampNeg) = 0 → w_L_law__2788 E D K post px k y4 (1 : Int32) (zxs E ((y4 + (1 : Int32))).toNatClampNeg) M))) ∧ (¬ ((zxs E (y4).toNatClampNeg) &&& (63 : Int32)) = (50 : Int32) → ((((zxs E (y4).toNatClampNeg) &&& (63 : Int32)) = (51 : Int32) → vp_in (y4 + (1 : Int32)) (zLn E) ∧ vp_in (y4 + (2 : Int32)) (zLn E) ∧ (((zxs E ((y4 + (2 : Int32))).toNatClampNeg) = 0 → w_L_law__2872 E D K post px k y4 (0 : Int32) (zxs E ((y4 + (1 : Int32))).toNatClampNeg) M) ∧ (¬ (zxs E ((y4 + (2 : Int32))).toNatClampNeg) = 0 → w_L_law__2872 E D K post px k y4 (1 : Int32) (zxs E ((y4 + (1 : Int32))).toNatClampNeg) M))) ∧ (¬ ((zxs E (y4).toNatClampNeg) &&& (63 : Int32)) = (51 : Int32) → ((((zxs E (y4).toNatClampNeg) &&& (63 : Int32)) = (52 : Int32) → vp_in (y4 + (1 : Int32)) (zLn E) ∧ vp_in (y4 + (2 : Int32)) (zLn E) ∧ zCWi E jL_log D 1 [.ref 19, .int (zxs E ((y4 + (1 : Int32))).toNatClampNeg), .int (zxs E ((y4 + (2 : Int32))).toNatClampNeg), .ref 18] M (fun r1141 M1139 => vp_in (y4 + (1 : Int32)) (zLn E) ∧ vp_in (y4 + (2 : Int32)) (zLn E) ∧ zCi E jX12_log D 0 [.ref 0, .int (zxs E ((y4 + (1 : Int32))).toNatClampNeg), .int (zxs E ((y4 + (2 : Int32))).toNatClampNeg)] M1139 (fun r1148 M1146 => zCi E jX12_thrown D 0 [.ref 0] M1146 (fun r1151 M1149 => ((r1151 = r1141 → ((¬ r1141 = 0 → w_L_law__3000 E D K post px (k + 1) y4 M1149) ∧ (r1141 = 0 → (((lg_cmp (M1149.2 18 ((0 : Int32)).toNatClampNeg) ((r1148).toInt64)) = 0 → w_L_law__3000 E D K post px (k + 1) y4 M1149) ∧ (¬ (lg_cmp (M1149.2 18 ((0 : Int32)).toNatClampNeg) ((r1148).toInt64)) = 0 → post (0 : Int32) M1149))))) ∧ (¬ r1151 = r1141 → post (0 : Int32) M1149))) px) px)) ∧ (¬ ((zxs E (y4).toNatClampNeg) &&& (63 : Int32)) = (52 : Int32) → ((((zxs E (y4).toNatClampNeg) &&& (63 : Int32)) = (53 : Int32) → vp_in (y4 + (1 : Int32)) (zLn E) ∧ zCi E jX11_seed D 0 [.ref 19, .int (zxs E ((y4 + (1 : Int32))).toNatClampNeg)] M (fun r1168 M1166 => vp_in (y4 + (1 : Int32)) (zLn E) ∧ zCi E jX12_seed D 0 [.ref 0, .int (zxs E ((y4 + (1 : Int32))).toNatClampNeg)] M1166 (fun r1173 M1171 => ((r1168 = r1173 → w_L_law__3090 E D K post px k y4 M1171) ∧ (¬ r1168 = r1173 → post (0 : Int32) M1171))) px) px) ∧ (¬ ((zxs E (y4).toNatClampNeg) &&& (63 : Int32)) = (53 : Int32) → ((((zxs E (y4).toNatClampNeg) &&& (63 : Int32)) = (54 : Int32) → zCi E jX11_undo D 0 [.ref 19] M (fun r1182 M1180 => zCi E jX12_undo D 0 [.ref 0] M1180 (fun r1185 M1183 => ((r1182 = r1185 → w_L_law__3090 E D K post px k y4 M1183) ∧ (¬ r1182 = r1185 → post (0 : Int32) M1183))) px) px) ∧ (¬ ((zxs E (y4).toNatClampNeg) &&& (63 : Int32)) = (54 : Int32) → ((((zxs E (y4).toNatClampNeg) &&& (63 : Int32)) = (55 : Int32) → zCv E jX11_image D 0 [.ref 19] M (fun M1192 => zCv E jX12_image D 0 [.ref 0] M1192 (fun M1194 => w_L_law__3090 E D K post px k y4 M1194) px) px) ∧ (¬ ((zxs E (y4).toNatClampNeg) &&& (63 : Int32)) = (55 : Int32) → ((((zxs E (y4).toNatClampNeg) &&& (63 : Int32)) = (56 : Int32) → zCi E jX11_back D 0 [.ref 19] M (fun r1201 M1199 => zCi E jX12_back D 0 [.ref 0] M1199 (fun r1204 M1202 => ((r1201 = r1204 → w_L_law__3090 E D K post px k y4 M1202) ∧ (¬ r1201 = r1204 → post (0 : Int32) M1202))) px) px) ∧ (¬ ((zxs E (y4).toNatClampNeg) &&& (63 : Int32)) = (56 : Int32) → ((((zxs E (y4).toNatClampNeg) &&& (63 : Int32)) = (57 : Int32) → vp_in (y4 + (1 : Int32)) (zLn E) ∧ zCi E jX11_count D 0 [.ref 19, .int (zxs E ((y4 + (1 : Int32))).toNatClampNeg)] M (fun r1215 M1213 => vp_in (y4 + (1 : Int32)) (zLn E) ∧ zCi E jX12_count D 0 [.ref 0, .int (zxs E ((y4 + (1 : Int32))).toNatClampNeg)] M1213 (fun r1220 M1218 => ((r1215 = r1220 → w_L_law__3090 E D K post px k y4 M1218) ∧ (¬ r1215 = r1220 → post (0 : Int32) M1218))) px) px) ∧ (¬ ((zxs E (y4).toNatClampNeg) &&& (63 : Int32)) = (57 : Int32) → w_L_law__3090 E D K post px k y4 M))))))))))))))))))))))))))))))))))))))))))))))))))))))))))))))))))))))))))))))))))))))))))))))))))))))))))))))))))))))) : w_L_law__23 E D K post px k y4 M := by
  show Z E jL_law_ (D + 1) K (zQi post px) 23 k [.ref 400, .ref 19, .ref 0, .ref 18, .int y4, zU, zU] [] M
  refine z_iload dL_law__23 rfl ?_
  refine z_aload_n dL_law__25 rfl ?_
  refine z_slen dL_law__26 ?_
  refine z_bipush (v := (6 : Int32)) dL_law__27 rfl ?_
  refine z_isub dL_law__29 ?_
  refine z_icmp_gt (tgt := 3096) dL_law__30 (by decide) (fun g1 => ?_) (fun g1 => ?_)
  · have h2 := h.1 g1
    refine z_iconst (v := (1 : Int32)) dL_law__3096 rfl ?_
    exact z_iret dL_law__3097 rfl (by decide) (by omega) h2
  · have h3 := h.2 g1
    refine z_aload_n dL_law__33 rfl ?_
    refine z_iload dL_law__34 rfl ?_
    obtain ⟨g5, h4⟩ := h3
    refine z_sld dL_law__36 g5 ?_
    refine z_bipush (v := (63 : Int32)) dL_law__37 rfl ?_
    refine z_iand dL_law__39 ?_
    by_cases g6 : ((zxs E (y4).toNatClampNeg) &&& (63 : Int32)) = (0 : Int32)
    · have h7 := h4.1 g6
      refine z_tableIn (tgt := 288) dL_law__40 (by rw [g6]; decide) (by rw [g6]; decide) (by rw [g6]; rfl) (by decide) ?_
      refine z_aload_n dL_law__288 rfl ?_
      refine z_aload_n dL_law__289 rfl ?_
      refine z_iload dL_law__290 rfl ?_
      refine z_iconst (v := (1 : Int32)) dL_law__292 rfl ?_
      refine z_iadd dL_law__293 ?_
      obtain ⟨g9, h8⟩ := h7
      refine z_sld dL_law__294 g9 ?_
      refine z_aload_n dL_law__295 rfl ?_
      refine z_iload dL_law__296 rfl ?_
      refine z_iconst (v := (2 : Int32)) dL_law__298 rfl ?_
      refine z_iadd dL_law__299 ?_
      obtain ⟨g11, h10⟩ := h8
      refine z_sld dL_law__300 g11 ?_
      refine z_aload_n dL_law__301 rfl ?_
      refine z_iload dL_law__302 rfl ?_
      refine z_iconst (v := (3 : Int32)) dL_law__304 rfl ?_
      refine z_iadd dL_law__305 ?_
      obtain ⟨g13, h12⟩ := h10
      refine z_sld dL_law__306 g13 ?_
      refine z_aload_n dL_law__307 rfl ?_
      refine z_iload dL_law__308 rfl ?_
      refine z_iconst (v := (4 : Int32)) dL_law__310 rfl ?_
      refine z_iadd dL_law__311 ?_
      obtain ⟨g15, h14⟩ := h12
      refine z_sld dL_law__312 g15 ?_
      refine z_aload_n dL_law__313 rfl ?_
      refine z_iload dL_law__314 rfl ?_
      refine z_iconst (v := (5 : Int32)) dL_law__316 rfl ?_
      refine z_iadd dL_law__317 ?_
      obtain ⟨g17, h16⟩ := h14
      refine z_sld dL_law__318 g17 ?_
      refine z_callVi (As := [.int (zxs E ((y4 + (1 : Int32))).toNatClampNeg), .int (zxs E ((y4 + (2 : Int32))).toNatClampNeg), .int (zxs E ((y4 + (3 : Int32))).toNatClampNeg), .int (zxs E ((y4 + (4 : Int32))).toNatClampNeg), .int (zxs E ((y4 + (5 : Int32))).toNatClampNeg)]) (st := []) dL_law__319 zi_L_147 rfl rfl zs_19 rfl rfl (Nat.le_of_ble_eq_true rfl) (by omega) (fun _ _ hx => hx) h16 ?_
      intro r20 M18 h19
      refine z_aload_n dL_law__322 rfl ?_
      refine z_aload_n dL_law__323 rfl ?_
      refine z_iload dL_law__324 rfl ?_
      refine z_iconst (v := (1 : Int32)) dL_law__326 rfl ?_
      refine z_iadd dL_law__327 ?_
      obtain ⟨g22, h21⟩ := h19
      refine z_sld dL_law__328 g22 ?_
      refine z_aload_n dL_law__329 rfl ?_
      refine z_iload dL_law__330 rfl ?_
      refine z_iconst (v := (2 : Int32)) dL_law__332 rfl ?_
      refine z_iadd dL_law__333 ?_
      obtain ⟨g24, h23⟩ := h21
      refine z_sld dL_law__334 g24 ?_
      refine z_aload_n dL_law__335 rfl ?_
      refine z_iload dL_law__336 rfl ?_
      refine z_iconst (v := (3 : Int32)) dL_law__338 rfl ?_
      refine z_iadd dL_law__339 ?_
      obtain ⟨g26, h25⟩ := h23
      refine z_sld dL_law__340 g26 ?_
      refine z_aload_n dL_law__341 rfl ?_
      refine z_iload dL_law__342 rfl ?_
      refine z_iconst (v := (4 : Int32)) dL_law__344 rfl ?_
      refine z_iadd dL_law__345 ?_
      obtain ⟨g28, h27⟩ := h25
      refine z_sld dL_law__346 g28 ?_
      refine z_aload_n dL_law__347 rfl ?_
      refine z_iload dL_law__348 rfl ?_
      refine z_iconst (v := (5 : Int32)) dL_law__350 rfl ?_
      refine z_iadd dL_law__351 ?_
      obtain ⟨g30, h29⟩ := h27
      refine z_sld dL_law__352 g30 ?_
      refine z_callVi (As := [.int (zxs E ((y4 + (1 : Int32))).toNatClampNeg), .int (zxs E ((y4 + (2 : Int32))).toNatClampNeg), .int (zxs E ((y4 + (3 : Int32))).toNatClampNeg), .int (zxs E ((y4 + (4 : Int32))).toNatClampNeg), .int (zxs E ((y4 + (5 : Int32))).toNatClampNeg)]) (st := [.int r20]) dL_law__353 zi_L_151 rfl rfl zs_0 rfl rfl (Nat.le_of_ble_eq_true rfl) (by omega) (fun _ _ hx => hx) h29 ?_
      intro r33 M31 h32
      refine z_icmp_eq (tgt := 3090) dL_law__356 (by decide) (fun g34 => ?_) (fun g34 => ?_)
      · have h35 := h32.1 g34
        exact h35
      · have h36 := h32.2 g34
        refine z_iconst (v := (0 : Int32)) dL_law__359 rfl ?_
        exact z_iret dL_law__360 rfl (by decide) (by omega) h36
    have h37 := h4.2 g6
    by_cases g38 : ((zxs E (y4).toNatClampNeg) &&& (63 : Int32)) = (1 : Int32)
    · have h39 := h37.1 g38
      refine z_tableIn (tgt := 361) dL_law__40 (by rw [g38]; decide) (by rw [g38]; decide) (by rw [g38]; rfl) (by decide) ?_
      refine z_aload_n dL_law__361 rfl ?_
      refine z_aload_n dL_law__362 rfl ?_
      refine z_iload dL_law__363 rfl ?_
      refine z_iconst (v := (1 : Int32)) dL_law__365 rfl ?_
      refine z_iadd dL_law__366 ?_
      obtain ⟨g41, h40⟩ := h39
      refine z_sld dL_law__367 g41 ?_
      refine z_callVi (As := [.int (zxs E ((y4 + (1 : Int32))).toNatClampNeg)]) (st := []) dL_law__368 zi_L_152 rfl rfl zs_19 rfl rfl (Nat.le_of_ble_eq_true rfl) (by omega) (fun _ _ hx => hx) h40 ?_
      intro r44 M42 h43
      refine z_aload_n dL_law__371 rfl ?_
      refine z_aload_n dL_law__372 rfl ?_
      refine z_iload dL_law__373 rfl ?_
      refine z_iconst (v := (1 : Int32)) dL_law__375 rfl ?_
      refine z_iadd dL_law__376 ?_
      obtain ⟨g46, h45⟩ := h43
      refine z_sld dL_law__377 g46 ?_
      refine z_callVi (As := [.int (zxs E ((y4 + (1 : Int32))).toNatClampNeg)]) (st := [.int r44]) dL_law__378 zi_L_156 rfl rfl zs_0 rfl rfl (Nat.le_of_ble_eq_true rfl) (by omega) (fun _ _ hx => hx) h45 ?_
      intro r49 M47 h48
      refine z_icmp_eq (tgt := 3090) dL_law__381 (by decide) (fun g50 => ?_) (fun g50 => ?_)
      · have h51 := h48.1 g50
        exact h51
      · have h52 := h48.2 g50
        refine z_iconst (v := (0 : Int32)) dL_law__384 rfl ?_
        exact z_iret dL_law__385 rfl (by decide) (by omega) h52
    have h53 := h37.2 g38
    by_cases g54 : ((zxs E (y4).toNatClampNeg) &&& (63 : Int32)) = (2 : Int32)
    · have h55 := h53.1 g54
      refine z_tableIn (tgt := 386) dL_law__40 (by rw [g54]; decide) (by rw [g54]; decide) (by rw [g54]; rfl) (by decide) ?_
      refine z_aload_n dL_law__386 rfl ?_
      refine z_aload_n dL_law__387 rfl ?_
      refine z_callWi (As := [.ref 19, .ref 18]) (st := []) dL_law__388 zi_L_157 rfl rfl (Nat.le_of_ble_eq_true rfl) (by omega) h55 ?_
      intro r58 M56 h57
      refine z_istore dL_law__391 (by decide) (ls' := [.ref 400, .ref 19, .ref 0, .ref 18, .int y4, .int r58, zU]) rfl ?_
      refine z_aload_n dL_law__393 rfl ?_
      refine z_callVi (As := []) (st := []) dL_law__394 zi_L_162 rfl rfl zs_0 rfl rfl (Nat.le_of_ble_eq_true rfl) (by omega) (fun _ _ hx => hx) h57 ?_
      intro r61 M59 h60
      refine z_istore dL_law__397 (by decide) (ls' := [.ref 400, .ref 19, .ref 0, .ref 18, .int y4, .int r58, .int r61]) rfl ?_
      refine z_aload_n dL_law__399 rfl ?_
      refine z_callVi (As := []) (st := []) dL_law__400 zi_L_163 rfl rfl zs_0 rfl rfl (Nat.le_of_ble_eq_true rfl) (by omega) (fun _ _ hx => hx) h60 ?_
      intro r64 M62 h63
      refine z_iload dL_law__403 rfl ?_
      refine z_icmp_eq (tgt := 410) dL_law__405 (by decide) (fun g65 => ?_) (fun g65 => ?_)
      · have h66 := h63.1 g65
        refine z_iload dL_law__410 rfl ?_
        refine z_if_ne (tgt := 427) dL_law__412 (by decide) (fun g68 => ?_) (fun g68 => ?_)
        · have h69 := h66.1 g68
          refine z_weak [true, true, true, true, true, false, false] (ls' := [.ref 400, .ref 19, .ref 0, .ref 18, .int y4, zU, zU]) rfl rfl ?_
          exact h69
        · have h70 := h66.2 g68
          refine z_aload_n dL_law__415 rfl ?_
          refine z_iconst (v := (0 : Int32)) dL_law__416 rfl ?_
          refine z_lald dL_law__417 zs_18 (by unfold vp_in; decide) ?_
          refine z_iload dL_law__418 rfl ?_
          refine z_i2l (v := ((r61).toInt64)) dL_law__420 rfl ?_
          refine z_lcmp dL_law__421 ?_
          refine z_if_eq (tgt := 427) dL_law__422 (by decide) (fun g71 => ?_) (fun g71 => ?_)
          · have h72 := h70.1 g71
            refine z_weak [true, true, true, true, true, false, false] (ls' := [.ref 400, .ref 19, .ref 0, .ref 18, .int y4, zU, zU]) rfl rfl ?_
            exact h72
          · have h73 := h70.2 g71
            refine z_iconst (v := (0 : Int32)) dL_law__425 rfl ?_
            exact z_iret dL_law__426 rfl (by decide) (by omega) h73
      · have h67 := h63.2 g65
        refine z_iconst (v := (0 : Int32)) dL_law__408 rfl ?_
        exact z_iret dL_law__409 rfl (by decide) (by omega) h67
    have h74 := h53.2 g54
    by_cases g75 : ((zxs E (y4).toNatClampNeg) &&& (63 : Int32)) = (3 : Int32)
    · have h76 := h74.1 g75
      refine z_tableIn (tgt := 430) dL_law__40 (by rw [g75]; decide) (by rw [g75]; decide) (by rw [g75]; rfl) (by decide) ?_
      refine z_aload_n dL_law__430 rfl ?_
      refine z_aload_n dL_law__431 rfl ?_
      refine z_callWi (As := [.ref 19, .ref 18]) (st := []) dL_law__432 zi_L_166 rfl rfl (Nat.le_of_ble_eq_true rfl) (by omega) h76 ?_
      intro r79 M77 h78
      refine z_istore dL_law__435 (by decide) (ls' := [.ref 400, .ref 19, .ref 0, .ref 18, .int y4, .int r79, zU]) rfl ?_
      refine z_aload_n dL_law__437 rfl ?_
      refine z_callVi (As := []) (st := []) dL_law__438 zi_L_168 rfl rfl zs_0 rfl rfl (Nat.le_of_ble_eq_true rfl) (by omega) (fun _ _ hx => hx) h78 ?_
      intro r82 M80 h81
      refine z_istore dL_law__441 (by decide) (ls' := [.ref 400, .ref 19, .ref 0, .ref 18, .int y4, .int r79, .int r82]) rfl ?_
      refine z_aload_n dL_law__443 rfl ?_
      refine z_callVi (As := []) (st := []) dL_law__444 zi_L_163 rfl rfl zs_0 rfl rfl (Nat.le_of_ble_eq_true rfl) (by omega) (fun _ _ hx => hx) h81 ?_
      intro r85 M83 h84
      refine z_iload dL_law__447 rfl ?_
      refine z_icmp_eq (tgt := 454) dL_law__449 (by decide) (fun g86 => ?_) (fun g86 => ?_)
      · have h87 := h84.1 g86
        refine z_iload dL_law__454 rfl ?_
        refine z_if_ne (tgt := 471) dL_law__456 (by decide) (fun g89 => ?_) (fun g89 => ?_)
        · have h90 := h87.1 g89
          refine z_weak [true, true, true, true, true, false, false] (ls' := [.ref 400, .ref 19, .ref 0, .ref 18, .int y4, zU, zU]) rfl rfl ?_
          exact h90
        · have h91 := h87.2 g89
          refine z_aload_n dL_law__459 rfl ?_
          refine z_iconst (v := (0 : Int32)) dL_law__460 rfl ?_
          refine z_lald dL_law__461 zs_18 (by unfold vp_in; decide) ?_
          refine z_iload dL_law__462 rfl ?_
          refine z_i2l (v := ((r82).toInt64)) dL_law__464 rfl ?_
          refine z_lcmp dL_law__465 ?_
          refine z_if_eq (tgt := 471) dL_law__466 (by decide) (fun g92 => ?_) (fun g92 => ?_)
          · have h93 := h91.1 g92
            refine z_weak [true, true, true, true, true, false, false] (ls' := [.ref 400, .ref 19, .ref 0, .ref 18, .int y4, zU, zU]) rfl rfl ?_
            exact h93
          · have h94 := h91.2 g92
            refine z_iconst (v := (0 : Int32)) dL_law__469 rfl ?_
            exact z_iret dL_law__470 rfl (by decide) (by omega) h94
      · have h88 := h84.2 g86
        refine z_iconst (v := (0 : Int32)) dL_law__452 rfl ?_
        exact z_iret dL_law__453 rfl (by decide) (by omega) h88
    have h95 := h74.2 g75
    by_cases g96 : ((zxs E (y4).toNatClampNeg) &&& (63 : Int32)) = (4 : Int32)
    · have h97 := h95.1 g96
      refine z_tableIn (tgt := 474) dL_law__40 (by rw [g96]; decide) (by rw [g96]; decide) (by rw [g96]; rfl) (by decide) ?_
      refine z_aload_n dL_law__474 rfl ?_
      refine z_callVi (As := []) (st := []) dL_law__475 zi_L_169 rfl rfl zs_19 rfl rfl (Nat.le_of_ble_eq_true rfl) (by omega) (fun _ _ hx => hx) h97 ?_
      intro r100 M98 h99
      refine z_aload_n dL_law__478 rfl ?_
      refine z_callVi (As := []) (st := [.int r100]) dL_law__479 zi_L_172 rfl rfl zs_0 rfl rfl (Nat.le_of_ble_eq_true rfl) (by omega) (fun _ _ hx => hx) h99 ?_
      intro r103 M101 h102
      refine z_icmp_eq (tgt := 3090) dL_law__482 (by decide) (fun g104 => ?_) (fun g104 => ?_)
      · have h105 := h102.1 g104
        exact h105
      · have h106 := h102.2 g104
        refine z_iconst (v := (0 : Int32)) dL_law__485 rfl ?_
        exact z_iret dL_law__486 rfl (by decide) (by omega) h106
    have h107 := h95.2 g96
    by_cases g108 : ((zxs E (y4).toNatClampNeg) &&& (63 : Int32)) = (5 : Int32)
    · have h109 := h107.1 g108
      refine z_tableIn (tgt := 487) dL_law__40 (by rw [g108]; decide) (by rw [g108]; decide) (by rw [g108]; rfl) (by decide) ?_
      refine z_aload_n dL_law__487 rfl ?_
      refine z_aload_n dL_law__488 rfl ?_
      refine z_iload dL_law__489 rfl ?_
      refine z_iconst (v := (1 : Int32)) dL_law__491 rfl ?_
      refine z_iadd dL_law__492 ?_
      obtain ⟨g111, h110⟩ := h109
      refine z_sld dL_law__493 g111 ?_
      refine z_aload_n dL_law__494 rfl ?_
      refine z_iload dL_law__495 rfl ?_
      refine z_iconst (v := (2 : Int32)) dL_law__497 rfl ?_
      refine z_iadd dL_law__498 ?_
      obtain ⟨g113, h112⟩ := h110
      refine z_sld dL_law__499 g113 ?_
      refine z_aload_n dL_law__500 rfl ?_
      refine z_callWi (As := [.ref 19, .int (zxs E ((y4 + (1 : Int32))).toNatClampNeg), .int (zxs E ((y4 + (2 : Int32))).toNatClampNeg), .ref 18]) (st := []) dL_law__501 zi_L_173 rfl rfl (Nat.le_of_ble_eq_true rfl) (by omega) h112 ?_
      intro r116 M114 h115
      refine z_istore dL_law__504 (by decide) (ls' := [.ref 400, .ref 19, .ref 0, .ref 18, .int y4, .int r116, zU]) rfl ?_
      refine z_aload_n dL_law__506 rfl ?_
      refine z_aload_n dL_law__507 rfl ?_
      refine z_iload dL_law__508 rfl ?_
      refine z_iconst (v := (1 : Int32)) dL_law__510 rfl ?_
      refine z_iadd dL_law__511 ?_
      obtain ⟨g118, h117⟩ := h115
      refine z_sld dL_law__512 g118 ?_
      refine z_aload_n dL_law__513 rfl ?_
      refine z_iload dL_law__514 rfl ?_
      refine z_iconst (v := (2 : Int32)) dL_law__516 rfl ?_
      refine z_iadd dL_law__517 ?_
      obtain ⟨g120, h119⟩ := h117
      refine z_sld dL_law__518 g120 ?_
      refine z_callVi (As := [.int (zxs E ((y4 + (1 : Int32))).toNatClampNeg), .int (zxs E ((y4 + (2 : Int32))).toNatClampNeg)]) (st := []) dL_law__519 zi_L_176 rfl rfl zs_0 rfl rfl (Nat.le_of_ble_eq_true rfl) (by omega) (fun _ _ hx => hx) h119 ?_
      intro r123 M121 h122
      refine z_istore dL_law__522 (by decide) (ls' := [.ref 400, .ref 19, .ref 0, .ref 18, .int y4, .int r116, .int r123]) rfl ?_
      refine z_aload_n dL_law__524 rfl ?_
      refine z_callVi (As := []) (st := []) dL_law__525 zi_L_163 rfl rfl zs_0 rfl rfl (Nat.le_of_ble_eq_true rfl) (by omega) (fun _ _ hx => hx) h122 ?_
      intro r126 M124 h125
      refine z_iload dL_law__528 rfl ?_
      refine z_icmp_eq (tgt := 535) dL_law__530 (by decide) (fun g127 => ?_) (fun g127 => ?_)
      · have h128 := h125.1 g127
        refine z_iload dL_law__535 rfl ?_
        refine z_if_ne (tgt := 552) dL_law__537 (by decide) (fun g130 => ?_) (fun g130 => ?_)
        · have h131 := h128.1 g130
          refine z_weak [true, true, true, true, true, false, false] (ls' := [.ref 400, .ref 19, .ref 0, .ref 18, .int y4, zU, zU]) rfl rfl ?_
          exact h131
        · have h132 := h128.2 g130
          refine z_aload_n dL_law__540 rfl ?_
          refine z_iconst (v := (0 : Int32)) dL_law__541 rfl ?_
          refine z_lald dL_law__542 zs_18 (by unfold vp_in; decide) ?_
          refine z_iload dL_law__543 rfl ?_
          refine z_i2l (v := ((r123).toInt64)) dL_law__545 rfl ?_
          refine z_lcmp dL_law__546 ?_
          refine z_if_eq (tgt := 552) dL_law__547 (by decide) (fun g133 => ?_) (fun g133 => ?_)
          · have h134 := h132.1 g133
            refine z_weak [true, true, true, true, true, false, false] (ls' := [.ref 400, .ref 19, .ref 0, .ref 18, .int y4, zU, zU]) rfl rfl ?_
            exact h134
          · have h135 := h132.2 g133
            refine z_iconst (v := (0 : Int32)) dL_law__550 rfl ?_
            exact z_iret dL_law__551 rfl (by decide) (by omega) h135
      · have h129 := h125.2 g127
        refine z_iconst (v := (0 : Int32)) dL_law__533 rfl ?_
        exact z_iret dL_law__534 rfl (by decide) (by omega) h129
    have h136 := h107.2 g108
    by_cases g137 : ((zxs E (y4).toNatClampNeg) &&& (63 : Int32)) = (6 : Int32)
    · have h138 := h136.1 g137
      refine z_tableIn (tgt := 555) dL_law__40 (by rw [g137]; decide) (by rw [g137]; decide) (by rw [g137]; rfl) (by decide) ?_
      refine z_aload_n dL_law__555 rfl ?_
      refine z_aload_n dL_law__556 rfl ?_
      refine z_iload dL_law__557 rfl ?_
      refine z_iconst (v := (1 : Int32)) dL_law__559 rfl ?_
      refine z_iadd dL_law__560 ?_
      obtain ⟨g140, h139⟩ := h138
      refine z_sld dL_law__561 g140 ?_
      refine z_aload_n dL_law__562 rfl ?_
      refine z_iload dL_law__563 rfl ?_
      refine z_iconst (v := (2 : Int32)) dL_law__565 rfl ?_
      refine z_iadd dL_law__566 ?_
      obtain ⟨g142, h141⟩ := h139
      refine z_sld dL_law__567 g142 ?_
      refine z_aload_n dL_law__568 rfl ?_
      refine z_callWi (As := [.ref 19, .int (zxs E ((y4 + (1 : Int32))).toNatClampNeg), .int (zxs E ((y4 + (2 : Int32))).toNatClampNeg), .ref 18]) (st := []) dL_law__569 zi_L_177 rfl rfl (Nat.le_of_ble_eq_true rfl) (by omega) h141 ?_
      intro r145 M143 h144
      refine z_istore dL_law__572 (by decide) (ls' := [.ref 400, .ref 19, .ref 0, .ref 18, .int y4, .int r145, zU]) rfl ?_
      refine z_aload_n dL_law__574 rfl ?_
      refine z_aload_n dL_law__575 rfl ?_
      refine z_iload dL_law__576 rfl ?_
      refine z_iconst (v := (1 : Int32)) dL_law__578 rfl ?_
      refine z_iadd dL_law__579 ?_
      obtain ⟨g147, h146⟩ := h144
      refine z_sld dL_law__580 g147 ?_
      refine z_aload_n dL_law__581 rfl ?_
      refine z_iload dL_law__582 rfl ?_
      refine z_iconst (v := (2 : Int32)) dL_law__584 rfl ?_
      refine z_iadd dL_law__585 ?_
      obtain ⟨g149, h148⟩ := h146
      refine z_sld dL_law__586 g149 ?_
      refine z_callVi (As := [.int (zxs E ((y4 + (1 : Int32))).toNatClampNeg), .int (zxs E ((y4 + (2 : Int32))).toNatClampNeg)]) (st := []) dL_law__587 zi_L_179 rfl rfl zs_0 rfl rfl (Nat.le_of_ble_eq_true rfl) (by omega) (fun _ _ hx => hx) h148 ?_
      intro r152 M150 h151
      refine z_istore dL_law__590 (by decide) (ls' := [.ref 400, .ref 19, .ref 0, .ref 18, .int y4, .int r145, .int r152]) rfl ?_
      refine z_aload_n dL_law__592 rfl ?_
      refine z_callVi (As := []) (st := []) dL_law__593 zi_L_163 rfl rfl zs_0 rfl rfl (Nat.le_of_ble_eq_true rfl) (by omega) (fun _ _ hx => hx) h151 ?_
      intro r155 M153 h154
      refine z_iload dL_law__596 rfl ?_
      refine z_icmp_eq (tgt := 603) dL_law__598 (by decide) (fun g156 => ?_) (fun g156 => ?_)
      · have h157 := h154.1 g156
        refine z_iload dL_law__603 rfl ?_
        refine z_if_ne (tgt := 620) dL_law__605 (by decide) (fun g159 => ?_) (fun g159 => ?_)
        · have h160 := h157.1 g159
          refine z_weak [true, true, true, true, true, false, false] (ls' := [.ref 400, .ref 19, .ref 0, .ref 18, .int y4, zU, zU]) rfl rfl ?_
          exact h160
        · have h161 := h157.2 g159
          refine z_aload_n dL_law__608 rfl ?_
          refine z_iconst (v := (0 : Int32)) dL_law__609 rfl ?_
          refine z_lald dL_law__610 zs_18 (by unfold vp_in; decide) ?_
          refine z_iload dL_law__611 rfl ?_
          refine z_i2l (v := ((r152).toInt64)) dL_law__613 rfl ?_
          refine z_lcmp dL_law__614 ?_
          refine z_if_eq (tgt := 620) dL_law__615 (by decide) (fun g162 => ?_) (fun g162 => ?_)
          · have h163 := h161.1 g162
            refine z_weak [true, true, true, true, true, false, false] (ls' := [.ref 400, .ref 19, .ref 0, .ref 18, .int y4, zU, zU]) rfl rfl ?_
            exact h163
          · have h164 := h161.2 g162
            refine z_iconst (v := (0 : Int32)) dL_law__618 rfl ?_
            exact z_iret dL_law__619 rfl (by decide) (by omega) h164
      · have h158 := h154.2 g156
        refine z_iconst (v := (0 : Int32)) dL_law__601 rfl ?_
        exact z_iret dL_law__602 rfl (by decide) (by omega) h158
    have h165 := h136.2 g137
    by_cases g166 : ((zxs E (y4).toNatClampNeg) &&& (63 : Int32)) = (7 : Int32)
    · have h167 := h165.1 g166
      refine z_tableIn (tgt := 623) dL_law__40 (by rw [g166]; decide) (by rw [g166]; decide) (by rw [g166]; rfl) (by decide) ?_
      refine z_aload_n dL_law__623 rfl ?_
      refine z_aload_n dL_law__624 rfl ?_
      refine z_iload dL_law__625 rfl ?_
      refine z_iconst (v := (1 : Int32)) dL_law__627 rfl ?_
      refine z_iadd dL_law__628 ?_
      obtain ⟨g169, h168⟩ := h167
      refine z_sld dL_law__629 g169 ?_
      refine z_aload_n dL_law__630 rfl ?_
      refine z_callWi (As := [.ref 19, .int (zxs E ((y4 + (1 : Int32))).toNatClampNeg), .ref 18]) (st := []) dL_law__631 zi_L_180 rfl rfl (Nat.le_of_ble_eq_true rfl) (by omega) h168 ?_
      intro r172 M170 h171
      refine z_istore dL_law__634 (by decide) (ls' := [.ref 400, .ref 19, .ref 0, .ref 18, .int y4, .int r172, zU]) rfl ?_
      refine z_aload_n dL_law__636 rfl ?_
      refine z_aload_n dL_law__637 rfl ?_
      refine z_iload dL_law__638 rfl ?_
      refine z_iconst (v := (1 : Int32)) dL_law__640 rfl ?_
      refine z_iadd dL_law__641 ?_
      obtain ⟨g174, h173⟩ := h171
      refine z_sld dL_law__642 g174 ?_
      refine z_callVi (As := [.int (zxs E ((y4 + (1 : Int32))).toNatClampNeg)]) (st := []) dL_law__643 zi_L_183 rfl rfl zs_0 rfl rfl (Nat.le_of_ble_eq_true rfl) (by omega) (fun _ _ hx => hx) h173 ?_
      intro r177 M175 h176
      refine z_istore dL_law__646 (by decide) (ls' := [.ref 400, .ref 19, .ref 0, .ref 18, .int y4, .int r172, .int r177]) rfl ?_
      refine z_aload_n dL_law__648 rfl ?_
      refine z_callVi (As := []) (st := []) dL_law__649 zi_L_163 rfl rfl zs_0 rfl rfl (Nat.le_of_ble_eq_true rfl) (by omega) (fun _ _ hx => hx) h176 ?_
      intro r180 M178 h179
      refine z_iload dL_law__652 rfl ?_
      refine z_icmp_eq (tgt := 659) dL_law__654 (by decide) (fun g181 => ?_) (fun g181 => ?_)
      · have h182 := h179.1 g181
        refine z_iload dL_law__659 rfl ?_
        refine z_if_ne (tgt := 676) dL_law__661 (by decide) (fun g184 => ?_) (fun g184 => ?_)
        · have h185 := h182.1 g184
          refine z_weak [true, true, true, true, true, false, false] (ls' := [.ref 400, .ref 19, .ref 0, .ref 18, .int y4, zU, zU]) rfl rfl ?_
          exact h185
        · have h186 := h182.2 g184
          refine z_aload_n dL_law__664 rfl ?_
          refine z_iconst (v := (0 : Int32)) dL_law__665 rfl ?_
          refine z_lald dL_law__666 zs_18 (by unfold vp_in; decide) ?_
          refine z_iload dL_law__667 rfl ?_
          refine z_i2l (v := ((r177).toInt64)) dL_law__669 rfl ?_
          refine z_lcmp dL_law__670 ?_
          refine z_if_eq (tgt := 676) dL_law__671 (by decide) (fun g187 => ?_) (fun g187 => ?_)
          · have h188 := h186.1 g187
            refine z_weak [true, true, true, true, true, false, false] (ls' := [.ref 400, .ref 19, .ref 0, .ref 18, .int y4, zU, zU]) rfl rfl ?_
            exact h188
          · have h189 := h186.2 g187
            refine z_iconst (v := (0 : Int32)) dL_law__674 rfl ?_
            exact z_iret dL_law__675 rfl (by decide) (by omega) h189
      · have h183 := h179.2 g181
        refine z_iconst (v := (0 : Int32)) dL_law__657 rfl ?_
        exact z_iret dL_law__658 rfl (by decide) (by omega) h183
    have h190 := h165.2 g166
    by_cases g191 : ((zxs E (y4).toNatClampNeg) &&& (63 : Int32)) = (8 : Int32)
    · have h192 := h190.1 g191
      refine z_tableIn (tgt := 679) dL_law__40 (by rw [g191]; decide) (by rw [g191]; decide) (by rw [g191]; rfl) (by decide) ?_
      refine z_aload_n dL_law__679 rfl ?_
      refine z_aload_n dL_law__680 rfl ?_
      refine z_iload dL_law__681 rfl ?_
      refine z_iconst (v := (1 : Int32)) dL_law__683 rfl ?_
      refine z_iadd dL_law__684 ?_
      obtain ⟨g194, h193⟩ := h192
      refine z_sld dL_law__685 g194 ?_
      refine z_aload_n dL_law__686 rfl ?_
      refine z_callWi (As := [.ref 19, .int (zxs E ((y4 + (1 : Int32))).toNatClampNeg), .ref 18]) (st := []) dL_law__687 zi_L_184 rfl rfl (Nat.le_of_ble_eq_true rfl) (by omega) h193 ?_
      intro r197 M195 h196
      refine z_istore dL_law__690 (by decide) (ls' := [.ref 400, .ref 19, .ref 0, .ref 18, .int y4, .int r197, zU]) rfl ?_
      refine z_aload_n dL_law__692 rfl ?_
      refine z_aload_n dL_law__693 rfl ?_
      refine z_iload dL_law__694 rfl ?_
      refine z_iconst (v := (1 : Int32)) dL_law__696 rfl ?_
      refine z_iadd dL_law__697 ?_
      obtain ⟨g199, h198⟩ := h196
      refine z_sld dL_law__698 g199 ?_
      refine z_callVi (As := [.int (zxs E ((y4 + (1 : Int32))).toNatClampNeg)]) (st := []) dL_law__699 zi_L_186 rfl rfl zs_0 rfl rfl (Nat.le_of_ble_eq_true rfl) (by omega) (fun _ _ hx => hx) h198 ?_
      intro r202 M200 h201
      refine z_istore dL_law__702 (by decide) (ls' := [.ref 400, .ref 19, .ref 0, .ref 18, .int y4, .int r197, .int r202]) rfl ?_
      refine z_aload_n dL_law__704 rfl ?_
      refine z_callVi (As := []) (st := []) dL_law__705 zi_L_163 rfl rfl zs_0 rfl rfl (Nat.le_of_ble_eq_true rfl) (by omega) (fun _ _ hx => hx) h201 ?_
      intro r205 M203 h204
      refine z_iload dL_law__708 rfl ?_
      refine z_icmp_eq (tgt := 715) dL_law__710 (by decide) (fun g206 => ?_) (fun g206 => ?_)
      · have h207 := h204.1 g206
        refine z_iload dL_law__715 rfl ?_
        refine z_if_ne (tgt := 732) dL_law__717 (by decide) (fun g209 => ?_) (fun g209 => ?_)
        · have h210 := h207.1 g209
          refine z_weak [true, true, true, true, true, false, false] (ls' := [.ref 400, .ref 19, .ref 0, .ref 18, .int y4, zU, zU]) rfl rfl ?_
          exact h210
        · have h211 := h207.2 g209
          refine z_aload_n dL_law__720 rfl ?_
          refine z_iconst (v := (0 : Int32)) dL_law__721 rfl ?_
          refine z_lald dL_law__722 zs_18 (by unfold vp_in; decide) ?_
          refine z_iload dL_law__723 rfl ?_
          refine z_i2l (v := ((r202).toInt64)) dL_law__725 rfl ?_
          refine z_lcmp dL_law__726 ?_
          refine z_if_eq (tgt := 732) dL_law__727 (by decide) (fun g212 => ?_) (fun g212 => ?_)
          · have h213 := h211.1 g212
            refine z_weak [true, true, true, true, true, false, false] (ls' := [.ref 400, .ref 19, .ref 0, .ref 18, .int y4, zU, zU]) rfl rfl ?_
            exact h213
          · have h214 := h211.2 g212
            refine z_iconst (v := (0 : Int32)) dL_law__730 rfl ?_
            exact z_iret dL_law__731 rfl (by decide) (by omega) h214
      · have h208 := h204.2 g206
        refine z_iconst (v := (0 : Int32)) dL_law__713 rfl ?_
        exact z_iret dL_law__714 rfl (by decide) (by omega) h208
    have h215 := h190.2 g191
    by_cases g216 : ((zxs E (y4).toNatClampNeg) &&& (63 : Int32)) = (9 : Int32)
    · have h217 := h215.1 g216
      refine z_tableIn (tgt := 735) dL_law__40 (by rw [g216]; decide) (by rw [g216]; decide) (by rw [g216]; rfl) (by decide) ?_
      refine z_aload_n dL_law__735 rfl ?_
      refine z_aload_n dL_law__736 rfl ?_
      refine z_iload dL_law__737 rfl ?_
      refine z_iconst (v := (1 : Int32)) dL_law__739 rfl ?_
      refine z_iadd dL_law__740 ?_
      obtain ⟨g219, h218⟩ := h217
      refine z_sld dL_law__741 g219 ?_
      refine z_aload_n dL_law__742 rfl ?_
      refine z_callWi (As := [.ref 19, .int (zxs E ((y4 + (1 : Int32))).toNatClampNeg), .ref 18]) (st := []) dL_law__743 zi_L_187 rfl rfl (Nat.le_of_ble_eq_true rfl) (by omega) h218 ?_
      intro r222 M220 h221
      refine z_istore dL_law__746 (by decide) (ls' := [.ref 400, .ref 19, .ref 0, .ref 18, .int y4, .int r222, zU]) rfl ?_
      refine z_aload_n dL_law__748 rfl ?_
      refine z_aload_n dL_law__749 rfl ?_
      refine z_iload dL_law__750 rfl ?_
      refine z_iconst (v := (1 : Int32)) dL_law__752 rfl ?_
      refine z_iadd dL_law__753 ?_
      obtain ⟨g224, h223⟩ := h221
      refine z_sld dL_law__754 g224 ?_
      refine z_callVi (As := [.int (zxs E ((y4 + (1 : Int32))).toNatClampNeg)]) (st := []) dL_law__755 zi_L_189 rfl rfl zs_0 rfl rfl (Nat.le_of_ble_eq_true rfl) (by omega) (fun _ _ hx => hx) h223 ?_
      intro r227 M225 h226
      refine z_istore dL_law__758 (by decide) (ls' := [.ref 400, .ref 19, .ref 0, .ref 18, .int y4, .int r222, .int r227]) rfl ?_
      refine z_aload_n dL_law__760 rfl ?_
      refine z_callVi (As := []) (st := []) dL_law__761 zi_L_163 rfl rfl zs_0 rfl rfl (Nat.le_of_ble_eq_true rfl) (by omega) (fun _ _ hx => hx) h226 ?_
      intro r230 M228 h229
      refine z_iload dL_law__764 rfl ?_
      refine z_icmp_eq (tgt := 771) dL_law__766 (by decide) (fun g231 => ?_) (fun g231 => ?_)
      · have h232 := h229.1 g231
        refine z_iload dL_law__771 rfl ?_
        refine z_if_ne (tgt := 788) dL_law__773 (by decide) (fun g234 => ?_) (fun g234 => ?_)
        · have h235 := h232.1 g234
          refine z_weak [true, true, true, true, true, false, false] (ls' := [.ref 400, .ref 19, .ref 0, .ref 18, .int y4, zU, zU]) rfl rfl ?_
          exact h235
        · have h236 := h232.2 g234
          refine z_aload_n dL_law__776 rfl ?_
          refine z_iconst (v := (0 : Int32)) dL_law__777 rfl ?_
          refine z_lald dL_law__778 zs_18 (by unfold vp_in; decide) ?_
          refine z_iload dL_law__779 rfl ?_
          refine z_i2l (v := ((r227).toInt64)) dL_law__781 rfl ?_
          refine z_lcmp dL_law__782 ?_
          refine z_if_eq (tgt := 788) dL_law__783 (by decide) (fun g237 => ?_) (fun g237 => ?_)
          · have h238 := h236.1 g237
            refine z_weak [true, true, true, true, true, false, false] (ls' := [.ref 400, .ref 19, .ref 0, .ref 18, .int y4, zU, zU]) rfl rfl ?_
            exact h238
          · have h239 := h236.2 g237
            refine z_iconst (v := (0 : Int32)) dL_law__786 rfl ?_
            exact z_iret dL_law__787 rfl (by decide) (by omega) h239
      · have h233 := h229.2 g231
        refine z_iconst (v := (0 : Int32)) dL_law__769 rfl ?_
        exact z_iret dL_law__770 rfl (by decide) (by omega) h233
    have h240 := h215.2 g216
    by_cases g241 : ((zxs E (y4).toNatClampNeg) &&& (63 : Int32)) = (10 : Int32)
    · have h242 := h240.1 g241
      refine z_tableIn (tgt := 791) dL_law__40 (by rw [g241]; decide) (by rw [g241]; decide) (by rw [g241]; rfl) (by decide) ?_
      refine z_aload_n dL_law__791 rfl ?_
      refine z_aload_n dL_law__792 rfl ?_
      refine z_iload dL_law__793 rfl ?_
      refine z_iconst (v := (1 : Int32)) dL_law__795 rfl ?_
      refine z_iadd dL_law__796 ?_
      obtain ⟨g244, h243⟩ := h242
      refine z_sld dL_law__797 g244 ?_
      refine z_aload_n dL_law__798 rfl ?_
      refine z_callWi (As := [.ref 19, .int (zxs E ((y4 + (1 : Int32))).toNatClampNeg), .ref 18]) (st := []) dL_law__799 zi_L_190 rfl rfl (Nat.le_of_ble_eq_true rfl) (by omega) h243 ?_
      intro r247 M245 h246
      refine z_istore dL_law__802 (by decide) (ls' := [.ref 400, .ref 19, .ref 0, .ref 18, .int y4, .int r247, zU]) rfl ?_
      refine z_aload_n dL_law__804 rfl ?_
      refine z_aload_n dL_law__805 rfl ?_
      refine z_iload dL_law__806 rfl ?_
      refine z_iconst (v := (1 : Int32)) dL_law__808 rfl ?_
      refine z_iadd dL_law__809 ?_
      obtain ⟨g249, h248⟩ := h246
      refine z_sld dL_law__810 g249 ?_
      refine z_callVi (As := [.int (zxs E ((y4 + (1 : Int32))).toNatClampNeg)]) (st := []) dL_law__811 zi_L_192 rfl rfl zs_0 rfl rfl (Nat.le_of_ble_eq_true rfl) (by omega) (fun _ _ hx => hx) h248 ?_
      intro r252 M250 h251
      refine z_istore dL_law__814 (by decide) (ls' := [.ref 400, .ref 19, .ref 0, .ref 18, .int y4, .int r247, .int r252]) rfl ?_
      refine z_aload_n dL_law__816 rfl ?_
      refine z_callVi (As := []) (st := []) dL_law__817 zi_L_163 rfl rfl zs_0 rfl rfl (Nat.le_of_ble_eq_true rfl) (by omega) (fun _ _ hx => hx) h251 ?_
      intro r255 M253 h254
      refine z_iload dL_law__820 rfl ?_
      refine z_icmp_eq (tgt := 827) dL_law__822 (by decide) (fun g256 => ?_) (fun g256 => ?_)
      · have h257 := h254.1 g256
        refine z_iload dL_law__827 rfl ?_
        refine z_if_ne (tgt := 844) dL_law__829 (by decide) (fun g259 => ?_) (fun g259 => ?_)
        · have h260 := h257.1 g259
          refine z_weak [true, true, true, true, true, false, false] (ls' := [.ref 400, .ref 19, .ref 0, .ref 18, .int y4, zU, zU]) rfl rfl ?_
          exact h260
        · have h261 := h257.2 g259
          refine z_aload_n dL_law__832 rfl ?_
          refine z_iconst (v := (0 : Int32)) dL_law__833 rfl ?_
          refine z_lald dL_law__834 zs_18 (by unfold vp_in; decide) ?_
          refine z_iload dL_law__835 rfl ?_
          refine z_i2l (v := ((r252).toInt64)) dL_law__837 rfl ?_
          refine z_lcmp dL_law__838 ?_
          refine z_if_eq (tgt := 844) dL_law__839 (by decide) (fun g262 => ?_) (fun g262 => ?_)
          · have h263 := h261.1 g262
            refine z_weak [true, true, true, true, true, false, false] (ls' := [.ref 400, .ref 19, .ref 0, .ref 18, .int y4, zU, zU]) rfl rfl ?_
            exact h263
          · have h264 := h261.2 g262
            refine z_iconst (v := (0 : Int32)) dL_law__842 rfl ?_
            exact z_iret dL_law__843 rfl (by decide) (by omega) h264
      · have h258 := h254.2 g256
        refine z_iconst (v := (0 : Int32)) dL_law__825 rfl ?_
        exact z_iret dL_law__826 rfl (by decide) (by omega) h258
    have h265 := h240.2 g241
    by_cases g266 : ((zxs E (y4).toNatClampNeg) &&& (63 : Int32)) = (11 : Int32)
    · have h267 := h265.1 g266
      refine z_tableIn (tgt := 847) dL_law__40 (by rw [g266]; decide) (by rw [g266]; decide) (by rw [g266]; rfl) (by decide) ?_
      refine z_aload_n dL_law__847 rfl ?_
      refine z_aload_n dL_law__848 rfl ?_
      refine z_iload dL_law__849 rfl ?_
      refine z_iconst (v := (1 : Int32)) dL_law__851 rfl ?_
      refine z_iadd dL_law__852 ?_
      obtain ⟨g269, h268⟩ := h267
      refine z_sld dL_law__853 g269 ?_
      refine z_aload_n dL_law__854 rfl ?_
      refine z_callWi (As := [.ref 19, .int (zxs E ((y4 + (1 : Int32))).toNatClampNeg), .ref 18]) (st := []) dL_law__855 zi_L_193 rfl rfl (Nat.le_of_ble_eq_true rfl) (by omega) h268 ?_
      intro r272 M270 h271
      refine z_istore dL_law__858 (by decide) (ls' := [.ref 400, .ref 19, .ref 0, .ref 18, .int y4, .int r272, zU]) rfl ?_
      refine z_aload_n dL_law__860 rfl ?_
      refine z_aload_n dL_law__861 rfl ?_
      refine z_iload dL_law__862 rfl ?_
      refine z_iconst (v := (1 : Int32)) dL_law__864 rfl ?_
      refine z_iadd dL_law__865 ?_
      obtain ⟨g274, h273⟩ := h271
      refine z_sld dL_law__866 g274 ?_
      refine z_callVi (As := [.int (zxs E ((y4 + (1 : Int32))).toNatClampNeg)]) (st := []) dL_law__867 zi_L_195 rfl rfl zs_0 rfl rfl (Nat.le_of_ble_eq_true rfl) (by omega) (fun _ _ hx => hx) h273 ?_
      intro r277 M275 h276
      refine z_istore dL_law__870 (by decide) (ls' := [.ref 400, .ref 19, .ref 0, .ref 18, .int y4, .int r272, .int r277]) rfl ?_
      refine z_aload_n dL_law__872 rfl ?_
      refine z_callVi (As := []) (st := []) dL_law__873 zi_L_163 rfl rfl zs_0 rfl rfl (Nat.le_of_ble_eq_true rfl) (by omega) (fun _ _ hx => hx) h276 ?_
      intro r280 M278 h279
      refine z_iload dL_law__876 rfl ?_
      refine z_icmp_eq (tgt := 883) dL_law__878 (by decide) (fun g281 => ?_) (fun g281 => ?_)
      · have h282 := h279.1 g281
        refine z_iload dL_law__883 rfl ?_
        refine z_if_ne (tgt := 900) dL_law__885 (by decide) (fun g284 => ?_) (fun g284 => ?_)
        · have h285 := h282.1 g284
          refine z_weak [true, true, true, true, true, false, false] (ls' := [.ref 400, .ref 19, .ref 0, .ref 18, .int y4, zU, zU]) rfl rfl ?_
          exact h285
        · have h286 := h282.2 g284
          refine z_aload_n dL_law__888 rfl ?_
          refine z_iconst (v := (0 : Int32)) dL_law__889 rfl ?_
          refine z_lald dL_law__890 zs_18 (by unfold vp_in; decide) ?_
          refine z_iload dL_law__891 rfl ?_
          refine z_i2l (v := ((r277).toInt64)) dL_law__893 rfl ?_
          refine z_lcmp dL_law__894 ?_
          refine z_if_eq (tgt := 900) dL_law__895 (by decide) (fun g287 => ?_) (fun g287 => ?_)
          · have h288 := h286.1 g287
            refine z_weak [true, true, true, true, true, false, false] (ls' := [.ref 400, .ref 19, .ref 0, .ref 18, .int y4, zU, zU]) rfl rfl ?_
            exact h288
          · have h289 := h286.2 g287
            refine z_iconst (v := (0 : Int32)) dL_law__898 rfl ?_
            exact z_iret dL_law__899 rfl (by decide) (by omega) h289
      · have h283 := h279.2 g281
        refine z_iconst (v := (0 : Int32)) dL_law__881 rfl ?_
        exact z_iret dL_law__882 rfl (by decide) (by omega) h283
    have h290 := h265.2 g266
    by_cases g291 : ((zxs E (y4).toNatClampNeg) &&& (63 : Int32)) = (12 : Int32)
    · have h292 := h290.1 g291
      refine z_tableIn (tgt := 903) dL_law__40 (by rw [g291]; decide) (by rw [g291]; decide) (by rw [g291]; rfl) (by decide) ?_
      refine z_aload_n dL_law__903 rfl ?_
      refine z_aload_n dL_law__904 rfl ?_
      refine z_iload dL_law__905 rfl ?_
      refine z_iconst (v := (1 : Int32)) dL_law__907 rfl ?_
      refine z_iadd dL_law__908 ?_
      obtain ⟨g294, h293⟩ := h292
      refine z_sld dL_law__909 g294 ?_
      refine z_aload_n dL_law__910 rfl ?_
      refine z_iload dL_law__911 rfl ?_
      refine z_iconst (v := (2 : Int32)) dL_law__913 rfl ?_
      refine z_iadd dL_law__914 ?_
      obtain ⟨g296, h295⟩ := h293
      refine z_sld dL_law__915 g296 ?_
      refine z_aload_n dL_law__916 rfl ?_
      refine z_callWi (As := [.ref 19, .int (zxs E ((y4 + (1 : Int32))).toNatClampNeg), .int (zxs E ((y4 + (2 : Int32))).toNatClampNeg), .ref 18]) (st := []) dL_law__917 zi_L_196 rfl rfl (Nat.le_of_ble_eq_true rfl) (by omega) h295 ?_
      intro r299 M297 h298
      refine z_istore dL_law__920 (by decide) (ls' := [.ref 400, .ref 19, .ref 0, .ref 18, .int y4, .int r299, zU]) rfl ?_
      refine z_aload_n dL_law__922 rfl ?_
      refine z_aload_n dL_law__923 rfl ?_
      refine z_iload dL_law__924 rfl ?_
      refine z_iconst (v := (1 : Int32)) dL_law__926 rfl ?_
      refine z_iadd dL_law__927 ?_
      obtain ⟨g301, h300⟩ := h298
      refine z_sld dL_law__928 g301 ?_
      refine z_aload_n dL_law__929 rfl ?_
      refine z_iload dL_law__930 rfl ?_
      refine z_iconst (v := (2 : Int32)) dL_law__932 rfl ?_
      refine z_iadd dL_law__933 ?_
      obtain ⟨g303, h302⟩ := h300
      refine z_sld dL_law__934 g303 ?_
      refine z_callVi (As := [.int (zxs E ((y4 + (1 : Int32))).toNatClampNeg), .int (zxs E ((y4 + (2 : Int32))).toNatClampNeg)]) (st := []) dL_law__935 zi_L_198 rfl rfl zs_0 rfl rfl (Nat.le_of_ble_eq_true rfl) (by omega) (fun _ _ hx => hx) h302 ?_
      intro r306 M304 h305
      refine z_istore dL_law__938 (by decide) (ls' := [.ref 400, .ref 19, .ref 0, .ref 18, .int y4, .int r299, .int r306]) rfl ?_
      refine z_aload_n dL_law__940 rfl ?_
      refine z_callVi (As := []) (st := []) dL_law__941 zi_L_163 rfl rfl zs_0 rfl rfl (Nat.le_of_ble_eq_true rfl) (by omega) (fun _ _ hx => hx) h305 ?_
      intro r309 M307 h308
      refine z_iload dL_law__944 rfl ?_
      refine z_icmp_eq (tgt := 951) dL_law__946 (by decide) (fun g310 => ?_) (fun g310 => ?_)
      · have h311 := h308.1 g310
        refine z_iload dL_law__951 rfl ?_
        refine z_if_ne (tgt := 968) dL_law__953 (by decide) (fun g313 => ?_) (fun g313 => ?_)
        · have h314 := h311.1 g313
          refine z_weak [true, true, true, true, true, false, false] (ls' := [.ref 400, .ref 19, .ref 0, .ref 18, .int y4, zU, zU]) rfl rfl ?_
          exact h314
        · have h315 := h311.2 g313
          refine z_aload_n dL_law__956 rfl ?_
          refine z_iconst (v := (0 : Int32)) dL_law__957 rfl ?_
          refine z_lald dL_law__958 zs_18 (by unfold vp_in; decide) ?_
          refine z_iload dL_law__959 rfl ?_
          refine z_i2l (v := ((r306).toInt64)) dL_law__961 rfl ?_
          refine z_lcmp dL_law__962 ?_
          refine z_if_eq (tgt := 968) dL_law__963 (by decide) (fun g316 => ?_) (fun g316 => ?_)
          · have h317 := h315.1 g316
            refine z_weak [true, true, true, true, true, false, false] (ls' := [.ref 400, .ref 19, .ref 0, .ref 18, .int y4, zU, zU]) rfl rfl ?_
            exact h317
          · have h318 := h315.2 g316
            refine z_iconst (v := (0 : Int32)) dL_law__966 rfl ?_
            exact z_iret dL_law__967 rfl (by decide) (by omega) h318
      · have h312 := h308.2 g310
        refine z_iconst (v := (0 : Int32)) dL_law__949 rfl ?_
        exact z_iret dL_law__950 rfl (by decide) (by omega) h312
    have h319 := h290.2 g291
    by_cases g320 : ((zxs E (y4).toNatClampNeg) &&& (63 : Int32)) = (13 : Int32)
    · have h321 := h319.1 g320
      refine z_tableIn (tgt := 971) dL_law__40 (by rw [g320]; decide) (by rw [g320]; decide) (by rw [g320]; rfl) (by decide) ?_
      refine z_aload_n dL_law__971 rfl ?_
      refine z_aload_n dL_law__972 rfl ?_
      refine z_iload dL_law__973 rfl ?_
      refine z_iconst (v := (1 : Int32)) dL_law__975 rfl ?_
      refine z_iadd dL_law__976 ?_
      obtain ⟨g323, h322⟩ := h321
      refine z_sld dL_law__977 g323 ?_
      refine z_aload_n dL_law__978 rfl ?_
      refine z_iload dL_law__979 rfl ?_
      refine z_iconst (v := (2 : Int32)) dL_law__981 rfl ?_
      refine z_iadd dL_law__982 ?_
      obtain ⟨g325, h324⟩ := h322
      refine z_sld dL_law__983 g325 ?_
      refine z_aload_n dL_law__984 rfl ?_
      refine z_callWi (As := [.ref 19, .int (zxs E ((y4 + (1 : Int32))).toNatClampNeg), .int (zxs E ((y4 + (2 : Int32))).toNatClampNeg), .ref 18]) (st := []) dL_law__985 zi_L_199 rfl rfl (Nat.le_of_ble_eq_true rfl) (by omega) h324 ?_
      intro r328 M326 h327
      refine z_istore dL_law__988 (by decide) (ls' := [.ref 400, .ref 19, .ref 0, .ref 18, .int y4, .int r328, zU]) rfl ?_
      refine z_aload_n dL_law__990 rfl ?_
      refine z_aload_n dL_law__991 rfl ?_
      refine z_iload dL_law__992 rfl ?_
      refine z_iconst (v := (1 : Int32)) dL_law__994 rfl ?_
      refine z_iadd dL_law__995 ?_
      obtain ⟨g330, h329⟩ := h327
      refine z_sld dL_law__996 g330 ?_
      refine z_aload_n dL_law__997 rfl ?_
      refine z_iload dL_law__998 rfl ?_
      refine z_iconst (v := (2 : Int32)) dL_law__1000 rfl ?_
      refine z_iadd dL_law__1001 ?_
      obtain ⟨g332, h331⟩ := h329
      refine z_sld dL_law__1002 g332 ?_
      refine z_callVi (As := [.int (zxs E ((y4 + (1 : Int32))).toNatClampNeg), .int (zxs E ((y4 + (2 : Int32))).toNatClampNeg)]) (st := []) dL_law__1003 zi_L_201 rfl rfl zs_0 rfl rfl (Nat.le_of_ble_eq_true rfl) (by omega) (fun _ _ hx => hx) h331 ?_
      intro r335 M333 h334
      refine z_istore dL_law__1006 (by decide) (ls' := [.ref 400, .ref 19, .ref 0, .ref 18, .int y4, .int r328, .int r335]) rfl ?_
      refine z_aload_n dL_law__1008 rfl ?_
      refine z_callVi (As := []) (st := []) dL_law__1009 zi_L_163 rfl rfl zs_0 rfl rfl (Nat.le_of_ble_eq_true rfl) (by omega) (fun _ _ hx => hx) h334 ?_
      intro r338 M336 h337
      refine z_iload dL_law__1012 rfl ?_
      refine z_icmp_eq (tgt := 1019) dL_law__1014 (by decide) (fun g339 => ?_) (fun g339 => ?_)
      · have h340 := h337.1 g339
        refine z_iload dL_law__1019 rfl ?_
        refine z_if_ne (tgt := 1036) dL_law__1021 (by decide) (fun g342 => ?_) (fun g342 => ?_)
        · have h343 := h340.1 g342
          refine z_weak [true, true, true, true, true, false, false] (ls' := [.ref 400, .ref 19, .ref 0, .ref 18, .int y4, zU, zU]) rfl rfl ?_
          exact h343
        · have h344 := h340.2 g342
          refine z_aload_n dL_law__1024 rfl ?_
          refine z_iconst (v := (0 : Int32)) dL_law__1025 rfl ?_
          refine z_lald dL_law__1026 zs_18 (by unfold vp_in; decide) ?_
          refine z_iload dL_law__1027 rfl ?_
          refine z_i2l (v := ((r335).toInt64)) dL_law__1029 rfl ?_
          refine z_lcmp dL_law__1030 ?_
          refine z_if_eq (tgt := 1036) dL_law__1031 (by decide) (fun g345 => ?_) (fun g345 => ?_)
          · have h346 := h344.1 g345
            refine z_weak [true, true, true, true, true, false, false] (ls' := [.ref 400, .ref 19, .ref 0, .ref 18, .int y4, zU, zU]) rfl rfl ?_
            exact h346
          · have h347 := h344.2 g345
            refine z_iconst (v := (0 : Int32)) dL_law__1034 rfl ?_
            exact z_iret dL_law__1035 rfl (by decide) (by omega) h347
      · have h341 := h337.2 g339
        refine z_iconst (v := (0 : Int32)) dL_law__1017 rfl ?_
        exact z_iret dL_law__1018 rfl (by decide) (by omega) h341
    have h348 := h319.2 g320
    by_cases g349 : ((zxs E (y4).toNatClampNeg) &&& (63 : Int32)) = (14 : Int32)
    · have h350 := h348.1 g349
      refine z_tableIn (tgt := 1039) dL_law__40 (by rw [g349]; decide) (by rw [g349]; decide) (by rw [g349]; rfl) (by decide) ?_
      refine z_aload_n dL_law__1039 rfl ?_
      refine z_aload_n dL_law__1040 rfl ?_
      refine z_iload dL_law__1041 rfl ?_
      refine z_iconst (v := (1 : Int32)) dL_law__1043 rfl ?_
      refine z_iadd dL_law__1044 ?_
      obtain ⟨g352, h351⟩ := h350
      refine z_sld dL_law__1045 g352 ?_
      refine z_aload_n dL_law__1046 rfl ?_
      refine z_callWi (As := [.ref 19, .int (zxs E ((y4 + (1 : Int32))).toNatClampNeg), .ref 18]) (st := []) dL_law__1047 zi_L_202 rfl rfl (Nat.le_of_ble_eq_true rfl) (by omega) h351 ?_
      intro r355 M353 h354
      refine z_istore dL_law__1050 (by decide) (ls' := [.ref 400, .ref 19, .ref 0, .ref 18, .int y4, .int r355, zU]) rfl ?_
      refine z_aload_n dL_law__1052 rfl ?_
      refine z_aload_n dL_law__1053 rfl ?_
      refine z_iload dL_law__1054 rfl ?_
      refine z_iconst (v := (1 : Int32)) dL_law__1056 rfl ?_
      refine z_iadd dL_law__1057 ?_
      obtain ⟨g357, h356⟩ := h354
      refine z_sld dL_law__1058 g357 ?_
      refine z_callVi (As := [.int (zxs E ((y4 + (1 : Int32))).toNatClampNeg)]) (st := []) dL_law__1059 zi_L_204 rfl rfl zs_0 rfl rfl (Nat.le_of_ble_eq_true rfl) (by omega) (fun _ _ hx => hx) h356 ?_
      intro r360 M358 h359
      refine z_istore dL_law__1062 (by decide) (ls' := [.ref 400, .ref 19, .ref 0, .ref 18, .int y4, .int r355, .int r360]) rfl ?_
      refine z_aload_n dL_law__1064 rfl ?_
      refine z_callVi (As := []) (st := []) dL_law__1065 zi_L_163 rfl rfl zs_0 rfl rfl (Nat.le_of_ble_eq_true rfl) (by omega) (fun _ _ hx => hx) h359 ?_
      intro r363 M361 h362
      refine z_iload dL_law__1068 rfl ?_
      refine z_icmp_eq (tgt := 1075) dL_law__1070 (by decide) (fun g364 => ?_) (fun g364 => ?_)
      · have h365 := h362.1 g364
        refine z_iload dL_law__1075 rfl ?_
        refine z_if_ne (tgt := 1092) dL_law__1077 (by decide) (fun g367 => ?_) (fun g367 => ?_)
        · have h368 := h365.1 g367
          refine z_weak [true, true, true, true, true, false, false] (ls' := [.ref 400, .ref 19, .ref 0, .ref 18, .int y4, zU, zU]) rfl rfl ?_
          exact h368
        · have h369 := h365.2 g367
          refine z_aload_n dL_law__1080 rfl ?_
          refine z_iconst (v := (0 : Int32)) dL_law__1081 rfl ?_
          refine z_lald dL_law__1082 zs_18 (by unfold vp_in; decide) ?_
          refine z_iload dL_law__1083 rfl ?_
          refine z_i2l (v := ((r360).toInt64)) dL_law__1085 rfl ?_
          refine z_lcmp dL_law__1086 ?_
          refine z_if_eq (tgt := 1092) dL_law__1087 (by decide) (fun g370 => ?_) (fun g370 => ?_)
          · have h371 := h369.1 g370
            refine z_weak [true, true, true, true, true, false, false] (ls' := [.ref 400, .ref 19, .ref 0, .ref 18, .int y4, zU, zU]) rfl rfl ?_
            exact h371
          · have h372 := h369.2 g370
            refine z_iconst (v := (0 : Int32)) dL_law__1090 rfl ?_
            exact z_iret dL_law__1091 rfl (by decide) (by omega) h372
      · have h366 := h362.2 g364
        refine z_iconst (v := (0 : Int32)) dL_law__1073 rfl ?_
        exact z_iret dL_law__1074 rfl (by decide) (by omega) h366
    have h373 := h348.2 g349
    by_cases g374 : ((zxs E (y4).toNatClampNeg) &&& (63 : Int32)) = (15 : Int32)
    · have h375 := h373.1 g374
      refine z_tableIn (tgt := 1095) dL_law__40 (by rw [g374]; decide) (by rw [g374]; decide) (by rw [g374]; rfl) (by decide) ?_
      refine z_aload_n dL_law__1095 rfl ?_
      refine z_aload_n dL_law__1096 rfl ?_
      refine z_iload dL_law__1097 rfl ?_
      refine z_iconst (v := (1 : Int32)) dL_law__1099 rfl ?_
      refine z_iadd dL_law__1100 ?_
      obtain ⟨g377, h376⟩ := h375
      refine z_sld dL_law__1101 g377 ?_
      refine z_aload_n dL_law__1102 rfl ?_
      refine z_iload dL_law__1103 rfl ?_
      refine z_iconst (v := (2 : Int32)) dL_law__1105 rfl ?_
      refine z_iadd dL_law__1106 ?_
      obtain ⟨g379, h378⟩ := h376
      refine z_sld dL_law__1107 g379 ?_
      refine z_if_eq (tgt := 1115) dL_law__1108 (by decide) (fun g380 => ?_) (fun g380 => ?_)
      · have h381 := h378.1 g380
        refine z_iconst (v := (0 : Int32)) dL_law__1115 rfl ?_
        exact h381
      · have h382 := h378.2 g380
        refine z_iconst (v := (1 : Int32)) dL_law__1111 rfl ?_
        refine z_goto (tgt := 1116) dL_law__1112 (by decide) ?_
        exact h382
    have h383 := h373.2 g374
    by_cases g384 : ((zxs E (y4).toNatClampNeg) &&& (63 : Int32)) = (16 : Int32)
    · have h385 := h383.1 g384
      refine z_tableIn (tgt := 1186) dL_law__40 (by rw [g384]; decide) (by rw [g384]; decide) (by rw [g384]; rfl) (by decide) ?_
      refine z_aload_n dL_law__1186 rfl ?_
      refine z_aload_n dL_law__1187 rfl ?_
      refine z_iload dL_law__1188 rfl ?_
      refine z_iconst (v := (1 : Int32)) dL_law__1190 rfl ?_
      refine z_iadd dL_law__1191 ?_
      obtain ⟨g387, h386⟩ := h385
      refine z_sld dL_law__1192 g387 ?_
      refine z_aload_n dL_law__1193 rfl ?_
      refine z_iload dL_law__1194 rfl ?_
      refine z_iconst (v := (2 : Int32)) dL_law__1196 rfl ?_
      refine z_iadd dL_law__1197 ?_
      obtain ⟨g389, h388⟩ := h386
      refine z_sld dL_law__1198 g389 ?_
      refine z_aload_n dL_law__1199 rfl ?_
      refine z_callWi (As := [.ref 19, .int (zxs E ((y4 + (1 : Int32))).toNatClampNeg), .int (zxs E ((y4 + (2 : Int32))).toNatClampNeg), .ref 18]) (st := []) dL_law__1200 zi_L_209 rfl rfl (Nat.le_of_ble_eq_true rfl) (by omega) h388 ?_
      intro r392 M390 h391
      refine z_istore dL_law__1203 (by decide) (ls' := [.ref 400, .ref 19, .ref 0, .ref 18, .int y4, .int r392, zU]) rfl ?_
      refine z_aload_n dL_law__1205 rfl ?_
      refine z_aload_n dL_law__1206 rfl ?_
      refine z_iload dL_law__1207 rfl ?_
      refine z_iconst (v := (1 : Int32)) dL_law__1209 rfl ?_
      refine z_iadd dL_law__1210 ?_
      obtain ⟨g394, h393⟩ := h391
      refine z_sld dL_law__1211 g394 ?_
      refine z_aload_n dL_law__1212 rfl ?_
      refine z_iload dL_law__1213 rfl ?_
      refine z_iconst (v := (2 : Int32)) dL_law__1215 rfl ?_
      refine z_iadd dL_law__1216 ?_
      obtain ⟨g396, h395⟩ := h393
      refine z_sld dL_law__1217 g396 ?_
      refine z_callVi (As := [.int (zxs E ((y4 + (1 : Int32))).toNatClampNeg), .int (zxs E ((y4 + (2 : Int32))).toNatClampNeg)]) (st := []) dL_law__1218 zi_L_211 rfl rfl zs_0 rfl rfl (Nat.le_of_ble_eq_true rfl) (by omega) (fun _ _ hx => hx) h395 ?_
      intro r399 M397 h398
      refine z_istore dL_law__1221 (by decide) (ls' := [.ref 400, .ref 19, .ref 0, .ref 18, .int y4, .int r392, .int r399]) rfl ?_
      refine z_aload_n dL_law__1223 rfl ?_
      refine z_callVi (As := []) (st := []) dL_law__1224 zi_L_163 rfl rfl zs_0 rfl rfl (Nat.le_of_ble_eq_true rfl) (by omega) (fun _ _ hx => hx) h398 ?_
      intro r402 M400 h401
      refine z_iload dL_law__1227 rfl ?_
      refine z_icmp_eq (tgt := 1234) dL_law__1229 (by decide) (fun g403 => ?_) (fun g403 => ?_)
      · have h404 := h401.1 g403
        refine z_iload dL_law__1234 rfl ?_
        refine z_if_ne (tgt := 1251) dL_law__1236 (by decide) (fun g406 => ?_) (fun g406 => ?_)
        · have h407 := h404.1 g406
          refine z_weak [true, true, true, true, true, false, false] (ls' := [.ref 400, .ref 19, .ref 0, .ref 18, .int y4, zU, zU]) rfl rfl ?_
          exact h407
        · have h408 := h404.2 g406
          refine z_aload_n dL_law__1239 rfl ?_
          refine z_iconst (v := (0 : Int32)) dL_law__1240 rfl ?_
          refine z_lald dL_law__1241 zs_18 (by unfold vp_in; decide) ?_
          refine z_iload dL_law__1242 rfl ?_
          refine z_i2l (v := ((r399).toInt64)) dL_law__1244 rfl ?_
          refine z_lcmp dL_law__1245 ?_
          refine z_if_eq (tgt := 1251) dL_law__1246 (by decide) (fun g409 => ?_) (fun g409 => ?_)
          · have h410 := h408.1 g409
            refine z_weak [true, true, true, true, true, false, false] (ls' := [.ref 400, .ref 19, .ref 0, .ref 18, .int y4, zU, zU]) rfl rfl ?_
            exact h410
          · have h411 := h408.2 g409
            refine z_iconst (v := (0 : Int32)) dL_law__1249 rfl ?_
            exact z_iret dL_law__1250 rfl (by decide) (by omega) h411
      · have h405 := h401.2 g403
        refine z_iconst (v := (0 : Int32)) dL_law__1232 rfl ?_
        exact z_iret dL_law__1233 rfl (by decide) (by omega) h405
    have h412 := h383.2 g384
    by_cases g413 : ((zxs E (y4).toNatClampNeg) &&& (63 : Int32)) = (17 : Int32)
    · have h414 := h412.1 g413
      refine z_tableIn (tgt := 1254) dL_law__40 (by rw [g413]; decide) (by rw [g413]; decide) (by rw [g413]; rfl) (by decide) ?_
      refine z_aload_n dL_law__1254 rfl ?_
      refine z_aload_n dL_law__1255 rfl ?_
      refine z_iload dL_law__1256 rfl ?_
      refine z_iconst (v := (1 : Int32)) dL_law__1258 rfl ?_
      refine z_iadd dL_law__1259 ?_
      obtain ⟨g416, h415⟩ := h414
      refine z_sld dL_law__1260 g416 ?_
      refine z_aload_n dL_law__1261 rfl ?_
      refine z_callWi (As := [.ref 19, .int (zxs E ((y4 + (1 : Int32))).toNatClampNeg), .ref 18]) (st := []) dL_law__1262 zi_L_212 rfl rfl (Nat.le_of_ble_eq_true rfl) (by omega) h415 ?_
      intro r419 M417 h418
      refine z_istore dL_law__1265 (by decide) (ls' := [.ref 400, .ref 19, .ref 0, .ref 18, .int y4, .int r419, zU]) rfl ?_
      refine z_aload_n dL_law__1267 rfl ?_
      refine z_aload_n dL_law__1268 rfl ?_
      refine z_iload dL_law__1269 rfl ?_
      refine z_iconst (v := (1 : Int32)) dL_law__1271 rfl ?_
      refine z_iadd dL_law__1272 ?_
      obtain ⟨g421, h420⟩ := h418
      refine z_sld dL_law__1273 g421 ?_
      refine z_callVi (As := [.int (zxs E ((y4 + (1 : Int32))).toNatClampNeg)]) (st := []) dL_law__1274 zi_L_214 rfl rfl zs_0 rfl rfl (Nat.le_of_ble_eq_true rfl) (by omega) (fun _ _ hx => hx) h420 ?_
      intro r424 M422 h423
      refine z_istore dL_law__1277 (by decide) (ls' := [.ref 400, .ref 19, .ref 0, .ref 18, .int y4, .int r419, .int r424]) rfl ?_
      refine z_aload_n dL_law__1279 rfl ?_
      refine z_callVi (As := []) (st := []) dL_law__1280 zi_L_163 rfl rfl zs_0 rfl rfl (Nat.le_of_ble_eq_true rfl) (by omega) (fun _ _ hx => hx) h423 ?_
      intro r427 M425 h426
      refine z_iload dL_law__1283 rfl ?_
      refine z_icmp_eq (tgt := 1290) dL_law__1285 (by decide) (fun g428 => ?_) (fun g428 => ?_)
      · have h429 := h426.1 g428
        refine z_iload dL_law__1290 rfl ?_
        refine z_if_ne (tgt := 1307) dL_law__1292 (by decide) (fun g431 => ?_) (fun g431 => ?_)
        · have h432 := h429.1 g431
          refine z_weak [true, true, true, true, true, false, false] (ls' := [.ref 400, .ref 19, .ref 0, .ref 18, .int y4, zU, zU]) rfl rfl ?_
          exact h432
        · have h433 := h429.2 g431
          refine z_aload_n dL_law__1295 rfl ?_
          refine z_iconst (v := (0 : Int32)) dL_law__1296 rfl ?_
          refine z_lald dL_law__1297 zs_18 (by unfold vp_in; decide) ?_
          refine z_iload dL_law__1298 rfl ?_
          refine z_i2l (v := ((r424).toInt64)) dL_law__1300 rfl ?_
          refine z_lcmp dL_law__1301 ?_
          refine z_if_eq (tgt := 1307) dL_law__1302 (by decide) (fun g434 => ?_) (fun g434 => ?_)
          · have h435 := h433.1 g434
            refine z_weak [true, true, true, true, true, false, false] (ls' := [.ref 400, .ref 19, .ref 0, .ref 18, .int y4, zU, zU]) rfl rfl ?_
            exact h435
          · have h436 := h433.2 g434
            refine z_iconst (v := (0 : Int32)) dL_law__1305 rfl ?_
            exact z_iret dL_law__1306 rfl (by decide) (by omega) h436
      · have h430 := h426.2 g428
        refine z_iconst (v := (0 : Int32)) dL_law__1288 rfl ?_
        exact z_iret dL_law__1289 rfl (by decide) (by omega) h430
    have h437 := h412.2 g413
    by_cases g438 : ((zxs E (y4).toNatClampNeg) &&& (63 : Int32)) = (18 : Int32)
    · have h439 := h437.1 g438
      refine z_tableIn (tgt := 1310) dL_law__40 (by rw [g438]; decide) (by rw [g438]; decide) (by rw [g438]; rfl) (by decide) ?_
      refine z_aload_n dL_law__1310 rfl ?_
      refine z_aload_n dL_law__1311 rfl ?_
      refine z_iload dL_law__1312 rfl ?_
      refine z_iconst (v := (1 : Int32)) dL_law__1314 rfl ?_
      refine z_iadd dL_law__1315 ?_
      obtain ⟨g441, h440⟩ := h439
      refine z_sld dL_law__1316 g441 ?_
      refine z_aload_n dL_law__1317 rfl ?_
      refine z_iload dL_law__1318 rfl ?_
      refine z_iconst (v := (2 : Int32)) dL_law__1320 rfl ?_
      refine z_iadd dL_law__1321 ?_
      obtain ⟨g443, h442⟩ := h440
      refine z_sld dL_law__1322 g443 ?_
      refine z_aload_n dL_law__1323 rfl ?_
      refine z_callWi (As := [.ref 19, .int (zxs E ((y4 + (1 : Int32))).toNatClampNeg), .int (zxs E ((y4 + (2 : Int32))).toNatClampNeg), .ref 18]) (st := []) dL_law__1324 zi_L_215 rfl rfl (Nat.le_of_ble_eq_true rfl) (by omega) h442 ?_
      intro r446 M444 h445
      refine z_istore dL_law__1327 (by decide) (ls' := [.ref 400, .ref 19, .ref 0, .ref 18, .int y4, .int r446, zU]) rfl ?_
      refine z_aload_n dL_law__1329 rfl ?_
      refine z_aload_n dL_law__1330 rfl ?_
      refine z_iload dL_law__1331 rfl ?_
      refine z_iconst (v := (1 : Int32)) dL_law__1333 rfl ?_
      refine z_iadd dL_law__1334 ?_
      obtain ⟨g448, h447⟩ := h445
      refine z_sld dL_law__1335 g448 ?_
      refine z_aload_n dL_law__1336 rfl ?_
      refine z_iload dL_law__1337 rfl ?_
      refine z_iconst (v := (2 : Int32)) dL_law__1339 rfl ?_
      refine z_iadd dL_law__1340 ?_
      obtain ⟨g450, h449⟩ := h447
      refine z_sld dL_law__1341 g450 ?_
      refine z_callVi (As := [.int (zxs E ((y4 + (1 : Int32))).toNatClampNeg), .int (zxs E ((y4 + (2 : Int32))).toNatClampNeg)]) (st := []) dL_law__1342 zi_L_217 rfl rfl zs_0 rfl rfl (Nat.le_of_ble_eq_true rfl) (by omega) (fun _ _ hx => hx) h449 ?_
      intro r453 M451 h452
      refine z_istore dL_law__1345 (by decide) (ls' := [.ref 400, .ref 19, .ref 0, .ref 18, .int y4, .int r446, .int r453]) rfl ?_
      refine z_aload_n dL_law__1347 rfl ?_
      refine z_callVi (As := []) (st := []) dL_law__1348 zi_L_163 rfl rfl zs_0 rfl rfl (Nat.le_of_ble_eq_true rfl) (by omega) (fun _ _ hx => hx) h452 ?_
      intro r456 M454 h455
      refine z_iload dL_law__1351 rfl ?_
      refine z_icmp_eq (tgt := 1358) dL_law__1353 (by decide) (fun g457 => ?_) (fun g457 => ?_)
      · have h458 := h455.1 g457
        refine z_iload dL_law__1358 rfl ?_
        refine z_if_ne (tgt := 1375) dL_law__1360 (by decide) (fun g460 => ?_) (fun g460 => ?_)
        · have h461 := h458.1 g460
          refine z_weak [true, true, true, true, true, false, false] (ls' := [.ref 400, .ref 19, .ref 0, .ref 18, .int y4, zU, zU]) rfl rfl ?_
          exact h461
        · have h462 := h458.2 g460
          refine z_aload_n dL_law__1363 rfl ?_
          refine z_iconst (v := (0 : Int32)) dL_law__1364 rfl ?_
          refine z_lald dL_law__1365 zs_18 (by unfold vp_in; decide) ?_
          refine z_iload dL_law__1366 rfl ?_
          refine z_i2l (v := ((r453).toInt64)) dL_law__1368 rfl ?_
          refine z_lcmp dL_law__1369 ?_
          refine z_if_eq (tgt := 1375) dL_law__1370 (by decide) (fun g463 => ?_) (fun g463 => ?_)
          · have h464 := h462.1 g463
            refine z_weak [true, true, true, true, true, false, false] (ls' := [.ref 400, .ref 19, .ref 0, .ref 18, .int y4, zU, zU]) rfl rfl ?_
            exact h464
          · have h465 := h462.2 g463
            refine z_iconst (v := (0 : Int32)) dL_law__1373 rfl ?_
            exact z_iret dL_law__1374 rfl (by decide) (by omega) h465
      · have h459 := h455.2 g457
        refine z_iconst (v := (0 : Int32)) dL_law__1356 rfl ?_
        exact z_iret dL_law__1357 rfl (by decide) (by omega) h459
    have h466 := h437.2 g438
    by_cases g467 : ((zxs E (y4).toNatClampNeg) &&& (63 : Int32)) = (19 : Int32)
    · have h468 := h466.1 g467
      refine z_tableIn (tgt := 1378) dL_law__40 (by rw [g467]; decide) (by rw [g467]; decide) (by rw [g467]; rfl) (by decide) ?_
      refine z_aload_n dL_law__1378 rfl ?_
      refine z_aload_n dL_law__1379 rfl ?_
      refine z_iload dL_law__1380 rfl ?_
      refine z_iconst (v := (1 : Int32)) dL_law__1382 rfl ?_
      refine z_iadd dL_law__1383 ?_
      obtain ⟨g470, h469⟩ := h468
      refine z_sld dL_law__1384 g470 ?_
      refine z_aload_n dL_law__1385 rfl ?_
      refine z_iload dL_law__1386 rfl ?_
      refine z_iconst (v := (2 : Int32)) dL_law__1388 rfl ?_
      refine z_iadd dL_law__1389 ?_
      obtain ⟨g472, h471⟩ := h469
      refine z_sld dL_law__1390 g472 ?_
      refine z_aload_n dL_law__1391 rfl ?_
      refine z_callWi (As := [.ref 19, .int (zxs E ((y4 + (1 : Int32))).toNatClampNeg), .int (zxs E ((y4 + (2 : Int32))).toNatClampNeg), .ref 18]) (st := []) dL_law__1392 zi_L_218 rfl rfl (Nat.le_of_ble_eq_true rfl) (by omega) h471 ?_
      intro r475 M473 h474
      refine z_istore dL_law__1395 (by decide) (ls' := [.ref 400, .ref 19, .ref 0, .ref 18, .int y4, .int r475, zU]) rfl ?_
      refine z_aload_n dL_law__1397 rfl ?_
      refine z_aload_n dL_law__1398 rfl ?_
      refine z_iload dL_law__1399 rfl ?_
      refine z_iconst (v := (1 : Int32)) dL_law__1401 rfl ?_
      refine z_iadd dL_law__1402 ?_
      obtain ⟨g477, h476⟩ := h474
      refine z_sld dL_law__1403 g477 ?_
      refine z_aload_n dL_law__1404 rfl ?_
      refine z_iload dL_law__1405 rfl ?_
      refine z_iconst (v := (2 : Int32)) dL_law__1407 rfl ?_
      refine z_iadd dL_law__1408 ?_
      obtain ⟨g479, h478⟩ := h476
      refine z_sld dL_law__1409 g479 ?_
      refine z_callVi (As := [.int (zxs E ((y4 + (1 : Int32))).toNatClampNeg), .int (zxs E ((y4 + (2 : Int32))).toNatClampNeg)]) (st := []) dL_law__1410 zi_L_220 rfl rfl zs_0 rfl rfl (Nat.le_of_ble_eq_true rfl) (by omega) (fun _ _ hx => hx) h478 ?_
      intro r482 M480 h481
      refine z_istore dL_law__1413 (by decide) (ls' := [.ref 400, .ref 19, .ref 0, .ref 18, .int y4, .int r475, .int r482]) rfl ?_
      refine z_aload_n dL_law__1415 rfl ?_
      refine z_callVi (As := []) (st := []) dL_law__1416 zi_L_163 rfl rfl zs_0 rfl rfl (Nat.le_of_ble_eq_true rfl) (by omega) (fun _ _ hx => hx) h481 ?_
      intro r485 M483 h484
      refine z_iload dL_law__1419 rfl ?_
      refine z_icmp_eq (tgt := 1426) dL_law__1421 (by decide) (fun g486 => ?_) (fun g486 => ?_)
      · have h487 := h484.1 g486
        refine z_iload dL_law__1426 rfl ?_
        refine z_if_ne (tgt := 1443) dL_law__1428 (by decide) (fun g489 => ?_) (fun g489 => ?_)
        · have h490 := h487.1 g489
          refine z_weak [true, true, true, true, true, false, false] (ls' := [.ref 400, .ref 19, .ref 0, .ref 18, .int y4, zU, zU]) rfl rfl ?_
          exact h490
        · have h491 := h487.2 g489
          refine z_aload_n dL_law__1431 rfl ?_
          refine z_iconst (v := (0 : Int32)) dL_law__1432 rfl ?_
          refine z_lald dL_law__1433 zs_18 (by unfold vp_in; decide) ?_
          refine z_iload dL_law__1434 rfl ?_
          refine z_i2l (v := ((r482).toInt64)) dL_law__1436 rfl ?_
          refine z_lcmp dL_law__1437 ?_
          refine z_if_eq (tgt := 1443) dL_law__1438 (by decide) (fun g492 => ?_) (fun g492 => ?_)
          · have h493 := h491.1 g492
            refine z_weak [true, true, true, true, true, false, false] (ls' := [.ref 400, .ref 19, .ref 0, .ref 18, .int y4, zU, zU]) rfl rfl ?_
            exact h493
          · have h494 := h491.2 g492
            refine z_iconst (v := (0 : Int32)) dL_law__1441 rfl ?_
            exact z_iret dL_law__1442 rfl (by decide) (by omega) h494
      · have h488 := h484.2 g486
        refine z_iconst (v := (0 : Int32)) dL_law__1424 rfl ?_
        exact z_iret dL_law__1425 rfl (by decide) (by omega) h488
    have h495 := h466.2 g467
    by_cases g496 : ((zxs E (y4).toNatClampNeg) &&& (63 : Int32)) = (20 : Int32)
    · have h497 := h495.1 g496
      refine z_tableIn (tgt := 1446) dL_law__40 (by rw [g496]; decide) (by rw [g496]; decide) (by rw [g496]; rfl) (by decide) ?_
      refine z_aload_n dL_law__1446 rfl ?_
      refine z_aload_n dL_law__1447 rfl ?_
      refine z_iload dL_law__1448 rfl ?_
      refine z_iconst (v := (1 : Int32)) dL_law__1450 rfl ?_
      refine z_iadd dL_law__1451 ?_
      obtain ⟨g499, h498⟩ := h497
      refine z_sld dL_law__1452 g499 ?_
      refine z_aload_n dL_law__1453 rfl ?_
      refine z_callWi (As := [.ref 19, .int (zxs E ((y4 + (1 : Int32))).toNatClampNeg), .ref 18]) (st := []) dL_law__1454 zi_L_221 rfl rfl (Nat.le_of_ble_eq_true rfl) (by omega) h498 ?_
      intro r502 M500 h501
      refine z_istore dL_law__1457 (by decide) (ls' := [.ref 400, .ref 19, .ref 0, .ref 18, .int y4, .int r502, zU]) rfl ?_
      refine z_aload_n dL_law__1459 rfl ?_
      refine z_aload_n dL_law__1460 rfl ?_
      refine z_iload dL_law__1461 rfl ?_
      refine z_iconst (v := (1 : Int32)) dL_law__1463 rfl ?_
      refine z_iadd dL_law__1464 ?_
      obtain ⟨g504, h503⟩ := h501
      refine z_sld dL_law__1465 g504 ?_
      refine z_callVi (As := [.int (zxs E ((y4 + (1 : Int32))).toNatClampNeg)]) (st := []) dL_law__1466 zi_L_223 rfl rfl zs_0 rfl rfl (Nat.le_of_ble_eq_true rfl) (by omega) (fun _ _ hx => hx) h503 ?_
      intro r507 M505 h506
      refine z_istore dL_law__1469 (by decide) (ls' := [.ref 400, .ref 19, .ref 0, .ref 18, .int y4, .int r502, .int r507]) rfl ?_
      refine z_aload_n dL_law__1471 rfl ?_
      refine z_callVi (As := []) (st := []) dL_law__1472 zi_L_163 rfl rfl zs_0 rfl rfl (Nat.le_of_ble_eq_true rfl) (by omega) (fun _ _ hx => hx) h506 ?_
      intro r510 M508 h509
      refine z_iload dL_law__1475 rfl ?_
      refine z_icmp_eq (tgt := 1482) dL_law__1477 (by decide) (fun g511 => ?_) (fun g511 => ?_)
      · have h512 := h509.1 g511
        refine z_iload dL_law__1482 rfl ?_
        refine z_if_ne (tgt := 1499) dL_law__1484 (by decide) (fun g514 => ?_) (fun g514 => ?_)
        · have h515 := h512.1 g514
          refine z_weak [true, true, true, true, true, false, false] (ls' := [.ref 400, .ref 19, .ref 0, .ref 18, .int y4, zU, zU]) rfl rfl ?_
          exact h515
        · have h516 := h512.2 g514
          refine z_aload_n dL_law__1487 rfl ?_
          refine z_iconst (v := (0 : Int32)) dL_law__1488 rfl ?_
          refine z_lald dL_law__1489 zs_18 (by unfold vp_in; decide) ?_
          refine z_iload dL_law__1490 rfl ?_
          refine z_i2l (v := ((r507).toInt64)) dL_law__1492 rfl ?_
          refine z_lcmp dL_law__1493 ?_
          refine z_if_eq (tgt := 1499) dL_law__1494 (by decide) (fun g517 => ?_) (fun g517 => ?_)
          · have h518 := h516.1 g517
            refine z_weak [true, true, true, true, true, false, false] (ls' := [.ref 400, .ref 19, .ref 0, .ref 18, .int y4, zU, zU]) rfl rfl ?_
            exact h518
          · have h519 := h516.2 g517
            refine z_iconst (v := (0 : Int32)) dL_law__1497 rfl ?_
            exact z_iret dL_law__1498 rfl (by decide) (by omega) h519
      · have h513 := h509.2 g511
        refine z_iconst (v := (0 : Int32)) dL_law__1480 rfl ?_
        exact z_iret dL_law__1481 rfl (by decide) (by omega) h513
    have h520 := h495.2 g496
    by_cases g521 : ((zxs E (y4).toNatClampNeg) &&& (63 : Int32)) = (21 : Int32)
    · have h522 := h520.1 g521
      refine z_tableIn (tgt := 1502) dL_law__40 (by rw [g521]; decide) (by rw [g521]; decide) (by rw [g521]; rfl) (by decide) ?_
      refine z_aload_n dL_law__1502 rfl ?_
      refine z_aload_n dL_law__1503 rfl ?_
      refine z_iload dL_law__1504 rfl ?_
      refine z_iconst (v := (1 : Int32)) dL_law__1506 rfl ?_
      refine z_iadd dL_law__1507 ?_
      obtain ⟨g524, h523⟩ := h522
      refine z_sld dL_law__1508 g524 ?_
      refine z_aload_n dL_law__1509 rfl ?_
      refine z_iload dL_law__1510 rfl ?_
      refine z_iconst (v := (2 : Int32)) dL_law__1512 rfl ?_
      refine z_iadd dL_law__1513 ?_
      obtain ⟨g526, h525⟩ := h523
      refine z_sld dL_law__1514 g526 ?_
      refine z_aload_n dL_law__1515 rfl ?_
      refine z_callWi (As := [.ref 19, .int (zxs E ((y4 + (1 : Int32))).toNatClampNeg), .int (zxs E ((y4 + (2 : Int32))).toNatClampNeg), .ref 18]) (st := []) dL_law__1516 zi_L_224 rfl rfl (Nat.le_of_ble_eq_true rfl) (by omega) h525 ?_
      intro r529 M527 h528
      refine z_istore dL_law__1519 (by decide) (ls' := [.ref 400, .ref 19, .ref 0, .ref 18, .int y4, .int r529, zU]) rfl ?_
      refine z_aload_n dL_law__1521 rfl ?_
      refine z_aload_n dL_law__1522 rfl ?_
      refine z_iload dL_law__1523 rfl ?_
      refine z_iconst (v := (1 : Int32)) dL_law__1525 rfl ?_
      refine z_iadd dL_law__1526 ?_
      obtain ⟨g531, h530⟩ := h528
      refine z_sld dL_law__1527 g531 ?_
      refine z_aload_n dL_law__1528 rfl ?_
      refine z_iload dL_law__1529 rfl ?_
      refine z_iconst (v := (2 : Int32)) dL_law__1531 rfl ?_
      refine z_iadd dL_law__1532 ?_
      obtain ⟨g533, h532⟩ := h530
      refine z_sld dL_law__1533 g533 ?_
      refine z_callVi (As := [.int (zxs E ((y4 + (1 : Int32))).toNatClampNeg), .int (zxs E ((y4 + (2 : Int32))).toNatClampNeg)]) (st := []) dL_law__1534 zi_L_226 rfl rfl zs_0 rfl rfl (Nat.le_of_ble_eq_true rfl) (by omega) (fun _ _ hx => hx) h532 ?_
      intro r536 M534 h535
      refine z_istore dL_law__1537 (by decide) (ls' := [.ref 400, .ref 19, .ref 0, .ref 18, .int y4, .int r529, .int r536]) rfl ?_
      refine z_aload_n dL_law__1539 rfl ?_
      refine z_callVi (As := []) (st := []) dL_law__1540 zi_L_163 rfl rfl zs_0 rfl rfl (Nat.le_of_ble_eq_true rfl) (by omega) (fun _ _ hx => hx) h535 ?_
      intro r539 M537 h538
      refine z_iload dL_law__1543 rfl ?_
      refine z_icmp_eq (tgt := 1550) dL_law__1545 (by decide) (fun g540 => ?_) (fun g540 => ?_)
      · have h541 := h538.1 g540
        refine z_iload dL_law__1550 rfl ?_
        refine z_if_ne (tgt := 1567) dL_law__1552 (by decide) (fun g543 => ?_) (fun g543 => ?_)
        · have h544 := h541.1 g543
          refine z_weak [true, true, true, true, true, false, false] (ls' := [.ref 400, .ref 19, .ref 0, .ref 18, .int y4, zU, zU]) rfl rfl ?_
          exact h544
        · have h545 := h541.2 g543
          refine z_aload_n dL_law__1555 rfl ?_
          refine z_iconst (v := (0 : Int32)) dL_law__1556 rfl ?_
          refine z_lald dL_law__1557 zs_18 (by unfold vp_in; decide) ?_
          refine z_iload dL_law__1558 rfl ?_
          refine z_i2l (v := ((r536).toInt64)) dL_law__1560 rfl ?_
          refine z_lcmp dL_law__1561 ?_
          refine z_if_eq (tgt := 1567) dL_law__1562 (by decide) (fun g546 => ?_) (fun g546 => ?_)
          · have h547 := h545.1 g546
            refine z_weak [true, true, true, true, true, false, false] (ls' := [.ref 400, .ref 19, .ref 0, .ref 18, .int y4, zU, zU]) rfl rfl ?_
            exact h547
          · have h548 := h545.2 g546
            refine z_iconst (v := (0 : Int32)) dL_law__1565 rfl ?_
            exact z_iret dL_law__1566 rfl (by decide) (by omega) h548
      · have h542 := h538.2 g540
        refine z_iconst (v := (0 : Int32)) dL_law__1548 rfl ?_
        exact z_iret dL_law__1549 rfl (by decide) (by omega) h542
    have h549 := h520.2 g521
    by_cases g550 : ((zxs E (y4).toNatClampNeg) &&& (63 : Int32)) = (22 : Int32)
    · have h551 := h549.1 g550
      refine z_tableIn (tgt := 1570) dL_law__40 (by rw [g550]; decide) (by rw [g550]; decide) (by rw [g550]; rfl) (by decide) ?_
      refine z_aload_n dL_law__1570 rfl ?_
      refine z_callVi (As := []) (st := []) dL_law__1571 zi_L_227 rfl rfl zs_19 rfl rfl (Nat.le_of_ble_eq_true rfl) (by omega) (fun _ _ hx => hx) h551 ?_
      intro r554 M552 h553
      refine z_aload_n dL_law__1574 rfl ?_
      refine z_callVi (As := []) (st := [.int r554]) dL_law__1575 zi_L_230 rfl rfl zs_0 rfl rfl (Nat.le_of_ble_eq_true rfl) (by omega) (fun _ _ hx => hx) h553 ?_
      intro r557 M555 h556
      refine z_icmp_eq (tgt := 3090) dL_law__1578 (by decide) (fun g558 => ?_) (fun g558 => ?_)
      · have h559 := h556.1 g558
        exact h559
      · have h560 := h556.2 g558
        refine z_iconst (v := (0 : Int32)) dL_law__1581 rfl ?_
        exact z_iret dL_law__1582 rfl (by decide) (by omega) h560
    have h561 := h549.2 g550
    by_cases g562 : ((zxs E (y4).toNatClampNeg) &&& (63 : Int32)) = (23 : Int32)
    · have h563 := h561.1 g562
      refine z_tableIn (tgt := 1583) dL_law__40 (by rw [g562]; decide) (by rw [g562]; decide) (by rw [g562]; rfl) (by decide) ?_
      refine z_aload_n dL_law__1583 rfl ?_
      refine z_callVi (As := []) (st := []) dL_law__1584 zi_L_231 rfl rfl zs_19 rfl rfl (Nat.le_of_ble_eq_true rfl) (by omega) (fun _ _ hx => hx) h563 ?_
      intro r566 M564 h565
      refine z_aload_n dL_law__1587 rfl ?_
      refine z_callVi (As := []) (st := [.int r566]) dL_law__1588 zi_L_234 rfl rfl zs_0 rfl rfl (Nat.le_of_ble_eq_true rfl) (by omega) (fun _ _ hx => hx) h565 ?_
      intro r569 M567 h568
      refine z_icmp_eq (tgt := 3090) dL_law__1591 (by decide) (fun g570 => ?_) (fun g570 => ?_)
      · have h571 := h568.1 g570
        exact h571
      · have h572 := h568.2 g570
        refine z_iconst (v := (0 : Int32)) dL_law__1594 rfl ?_
        exact z_iret dL_law__1595 rfl (by decide) (by omega) h572
    have h573 := h561.2 g562
    by_cases g574 : ((zxs E (y4).toNatClampNeg) &&& (63 : Int32)) = (24 : Int32)
    · have h575 := h573.1 g574
      refine z_tableIn (tgt := 1596) dL_law__40 (by rw [g574]; decide) (by rw [g574]; decide) (by rw [g574]; rfl) (by decide) ?_
      refine z_aload_n dL_law__1596 rfl ?_
      refine z_callVi (As := []) (st := []) dL_law__1597 zi_L_235 rfl rfl zs_19 rfl rfl (Nat.le_of_ble_eq_true rfl) (by omega) (fun _ _ hx => hx) h575 ?_
      intro r578 M576 h577
      refine z_aload_n dL_law__1600 rfl ?_
      refine z_callVi (As := []) (st := [.int r578]) dL_law__1601 zi_L_238 rfl rfl zs_0 rfl rfl (Nat.le_of_ble_eq_true rfl) (by omega) (fun _ _ hx => hx) h577 ?_
      intro r581 M579 h580
      refine z_icmp_eq (tgt := 3090) dL_law__1604 (by decide) (fun g582 => ?_) (fun g582 => ?_)
      · have h583 := h580.1 g582
        exact h583
      · have h584 := h580.2 g582
        refine z_iconst (v := (0 : Int32)) dL_law__1607 rfl ?_
        exact z_iret dL_law__1608 rfl (by decide) (by omega) h584
    have h585 := h573.2 g574
    by_cases g586 : ((zxs E (y4).toNatClampNeg) &&& (63 : Int32)) = (25 : Int32)
    · have h587 := h585.1 g586
      refine z_tableIn (tgt := 1609) dL_law__40 (by rw [g586]; decide) (by rw [g586]; decide) (by rw [g586]; rfl) (by decide) ?_
      refine z_aload_n dL_law__1609 rfl ?_
      refine z_aload_n dL_law__1610 rfl ?_
      refine z_callWi (As := [.ref 19, .ref 18]) (st := []) dL_law__1611 zi_L_239 rfl rfl (Nat.le_of_ble_eq_true rfl) (by omega) h587 ?_
      intro r590 M588 h589
      refine z_istore dL_law__1614 (by decide) (ls' := [.ref 400, .ref 19, .ref 0, .ref 18, .int y4, .int r590, zU]) rfl ?_
      refine z_aload_n dL_law__1616 rfl ?_
      refine z_callVi (As := []) (st := []) dL_law__1617 zi_L_241 rfl rfl zs_0 rfl rfl (Nat.le_of_ble_eq_true rfl) (by omega) (fun _ _ hx => hx) h589 ?_
      intro r593 M591 h592
      refine z_istore dL_law__1620 (by decide) (ls' := [.ref 400, .ref 19, .ref 0, .ref 18, .int y4, .int r590, .int r593]) rfl ?_
      refine z_aload_n dL_law__1622 rfl ?_
      refine z_callVi (As := []) (st := []) dL_law__1623 zi_L_163 rfl rfl zs_0 rfl rfl (Nat.le_of_ble_eq_true rfl) (by omega) (fun _ _ hx => hx) h592 ?_
      intro r596 M594 h595
      refine z_iload dL_law__1626 rfl ?_
      refine z_icmp_eq (tgt := 1633) dL_law__1628 (by decide) (fun g597 => ?_) (fun g597 => ?_)
      · have h598 := h595.1 g597
        refine z_iload dL_law__1633 rfl ?_
        refine z_if_ne (tgt := 1650) dL_law__1635 (by decide) (fun g600 => ?_) (fun g600 => ?_)
        · have h601 := h598.1 g600
          refine z_weak [true, true, true, true, true, false, false] (ls' := [.ref 400, .ref 19, .ref 0, .ref 18, .int y4, zU, zU]) rfl rfl ?_
          exact h601
        · have h602 := h598.2 g600
          refine z_aload_n dL_law__1638 rfl ?_
          refine z_iconst (v := (0 : Int32)) dL_law__1639 rfl ?_
          refine z_lald dL_law__1640 zs_18 (by unfold vp_in; decide) ?_
          refine z_iload dL_law__1641 rfl ?_
          refine z_i2l (v := ((r593).toInt64)) dL_law__1643 rfl ?_
          refine z_lcmp dL_law__1644 ?_
          refine z_if_eq (tgt := 1650) dL_law__1645 (by decide) (fun g603 => ?_) (fun g603 => ?_)
          · have h604 := h602.1 g603
            refine z_weak [true, true, true, true, true, false, false] (ls' := [.ref 400, .ref 19, .ref 0, .ref 18, .int y4, zU, zU]) rfl rfl ?_
            exact h604
          · have h605 := h602.2 g603
            refine z_iconst (v := (0 : Int32)) dL_law__1648 rfl ?_
            exact z_iret dL_law__1649 rfl (by decide) (by omega) h605
      · have h599 := h595.2 g597
        refine z_iconst (v := (0 : Int32)) dL_law__1631 rfl ?_
        exact z_iret dL_law__1632 rfl (by decide) (by omega) h599
    have h606 := h585.2 g586
    by_cases g607 : ((zxs E (y4).toNatClampNeg) &&& (63 : Int32)) = (26 : Int32)
    · have h608 := h606.1 g607
      refine z_tableIn (tgt := 1653) dL_law__40 (by rw [g607]; decide) (by rw [g607]; decide) (by rw [g607]; rfl) (by decide) ?_
      refine z_aload_n dL_law__1653 rfl ?_
      refine z_aload_n dL_law__1654 rfl ?_
      refine z_callWi (As := [.ref 19, .ref 18]) (st := []) dL_law__1655 zi_L_242 rfl rfl (Nat.le_of_ble_eq_true rfl) (by omega) h608 ?_
      intro r611 M609 h610
      refine z_istore dL_law__1658 (by decide) (ls' := [.ref 400, .ref 19, .ref 0, .ref 18, .int y4, .int r611, zU]) rfl ?_
      refine z_aload_n dL_law__1660 rfl ?_
      refine z_callVi (As := []) (st := []) dL_law__1661 zi_L_244 rfl rfl zs_0 rfl rfl (Nat.le_of_ble_eq_true rfl) (by omega) (fun _ _ hx => hx) h610 ?_
      intro r614 M612 h613
      refine z_istore dL_law__1664 (by decide) (ls' := [.ref 400, .ref 19, .ref 0, .ref 18, .int y4, .int r611, .int r614]) rfl ?_
      refine z_aload_n dL_law__1666 rfl ?_
      refine z_callVi (As := []) (st := []) dL_law__1667 zi_L_163 rfl rfl zs_0 rfl rfl (Nat.le_of_ble_eq_true rfl) (by omega) (fun _ _ hx => hx) h613 ?_
      intro r617 M615 h616
      refine z_iload dL_law__1670 rfl ?_
      refine z_icmp_eq (tgt := 1677) dL_law__1672 (by decide) (fun g618 => ?_) (fun g618 => ?_)
      · have h619 := h616.1 g618
        refine z_iload dL_law__1677 rfl ?_
        refine z_if_ne (tgt := 1694) dL_law__1679 (by decide) (fun g621 => ?_) (fun g621 => ?_)
        · have h622 := h619.1 g621
          refine z_weak [true, true, true, true, true, false, false] (ls' := [.ref 400, .ref 19, .ref 0, .ref 18, .int y4, zU, zU]) rfl rfl ?_
          exact h622
        · have h623 := h619.2 g621
          refine z_aload_n dL_law__1682 rfl ?_
          refine z_iconst (v := (0 : Int32)) dL_law__1683 rfl ?_
          refine z_lald dL_law__1684 zs_18 (by unfold vp_in; decide) ?_
          refine z_iload dL_law__1685 rfl ?_
          refine z_i2l (v := ((r614).toInt64)) dL_law__1687 rfl ?_
          refine z_lcmp dL_law__1688 ?_
          refine z_if_eq (tgt := 1694) dL_law__1689 (by decide) (fun g624 => ?_) (fun g624 => ?_)
          · have h625 := h623.1 g624
            refine z_weak [true, true, true, true, true, false, false] (ls' := [.ref 400, .ref 19, .ref 0, .ref 18, .int y4, zU, zU]) rfl rfl ?_
            exact h625
          · have h626 := h623.2 g624
            refine z_iconst (v := (0 : Int32)) dL_law__1692 rfl ?_
            exact z_iret dL_law__1693 rfl (by decide) (by omega) h626
      · have h620 := h616.2 g618
        refine z_iconst (v := (0 : Int32)) dL_law__1675 rfl ?_
        exact z_iret dL_law__1676 rfl (by decide) (by omega) h620
    have h627 := h606.2 g607
    by_cases g628 : ((zxs E (y4).toNatClampNeg) &&& (63 : Int32)) = (27 : Int32)
    · have h629 := h627.1 g628
      refine z_tableIn (tgt := 1697) dL_law__40 (by rw [g628]; decide) (by rw [g628]; decide) (by rw [g628]; rfl) (by decide) ?_
      refine z_aload_n dL_law__1697 rfl ?_
      refine z_aload_n dL_law__1698 rfl ?_
      refine z_callWi (As := [.ref 19, .ref 18]) (st := []) dL_law__1699 zi_L_245 rfl rfl (Nat.le_of_ble_eq_true rfl) (by omega) h629 ?_
      intro r632 M630 h631
      refine z_istore dL_law__1702 (by decide) (ls' := [.ref 400, .ref 19, .ref 0, .ref 18, .int y4, .int r632, zU]) rfl ?_
      refine z_aload_n dL_law__1704 rfl ?_
      refine z_callVi (As := []) (st := []) dL_law__1705 zi_L_247 rfl rfl zs_0 rfl rfl (Nat.le_of_ble_eq_true rfl) (by omega) (fun _ _ hx => hx) h631 ?_
      intro r635 M633 h634
      refine z_istore dL_law__1708 (by decide) (ls' := [.ref 400, .ref 19, .ref 0, .ref 18, .int y4, .int r632, .int r635]) rfl ?_
      refine z_aload_n dL_law__1710 rfl ?_
      refine z_callVi (As := []) (st := []) dL_law__1711 zi_L_163 rfl rfl zs_0 rfl rfl (Nat.le_of_ble_eq_true rfl) (by omega) (fun _ _ hx => hx) h634 ?_
      intro r638 M636 h637
      refine z_iload dL_law__1714 rfl ?_
      refine z_icmp_eq (tgt := 1721) dL_law__1716 (by decide) (fun g639 => ?_) (fun g639 => ?_)
      · have h640 := h637.1 g639
        refine z_iload dL_law__1721 rfl ?_
        refine z_if_ne (tgt := 1738) dL_law__1723 (by decide) (fun g642 => ?_) (fun g642 => ?_)
        · have h643 := h640.1 g642
          refine z_weak [true, true, true, true, true, false, false] (ls' := [.ref 400, .ref 19, .ref 0, .ref 18, .int y4, zU, zU]) rfl rfl ?_
          exact h643
        · have h644 := h640.2 g642
          refine z_aload_n dL_law__1726 rfl ?_
          refine z_iconst (v := (0 : Int32)) dL_law__1727 rfl ?_
          refine z_lald dL_law__1728 zs_18 (by unfold vp_in; decide) ?_
          refine z_iload dL_law__1729 rfl ?_
          refine z_i2l (v := ((r635).toInt64)) dL_law__1731 rfl ?_
          refine z_lcmp dL_law__1732 ?_
          refine z_if_eq (tgt := 1738) dL_law__1733 (by decide) (fun g645 => ?_) (fun g645 => ?_)
          · have h646 := h644.1 g645
            refine z_weak [true, true, true, true, true, false, false] (ls' := [.ref 400, .ref 19, .ref 0, .ref 18, .int y4, zU, zU]) rfl rfl ?_
            exact h646
          · have h647 := h644.2 g645
            refine z_iconst (v := (0 : Int32)) dL_law__1736 rfl ?_
            exact z_iret dL_law__1737 rfl (by decide) (by omega) h647
      · have h641 := h637.2 g639
        refine z_iconst (v := (0 : Int32)) dL_law__1719 rfl ?_
        exact z_iret dL_law__1720 rfl (by decide) (by omega) h641
    have h648 := h627.2 g628
    by_cases g649 : ((zxs E (y4).toNatClampNeg) &&& (63 : Int32)) = (28 : Int32)
    · have h650 := h648.1 g649
      refine z_tableIn (tgt := 1741) dL_law__40 (by rw [g649]; decide) (by rw [g649]; decide) (by rw [g649]; rfl) (by decide) ?_
      refine z_aload_n dL_law__1741 rfl ?_
      refine z_aload_n dL_law__1742 rfl ?_
      refine z_callWi (As := [.ref 19, .ref 18]) (st := []) dL_law__1743 zi_L_248 rfl rfl (Nat.le_of_ble_eq_true rfl) (by omega) h650 ?_
      intro r653 M651 h652
      refine z_istore dL_law__1746 (by decide) (ls' := [.ref 400, .ref 19, .ref 0, .ref 18, .int y4, .int r653, zU]) rfl ?_
      refine z_aload_n dL_law__1748 rfl ?_
      refine z_callVi (As := []) (st := []) dL_law__1749 zi_L_250 rfl rfl zs_0 rfl rfl (Nat.le_of_ble_eq_true rfl) (by omega) (fun _ _ hx => hx) h652 ?_
      intro r656 M654 h655
      refine z_istore dL_law__1752 (by decide) (ls' := [.ref 400, .ref 19, .ref 0, .ref 18, .int y4, .int r653, .int r656]) rfl ?_
      refine z_aload_n dL_law__1754 rfl ?_
      refine z_callVi (As := []) (st := []) dL_law__1755 zi_L_163 rfl rfl zs_0 rfl rfl (Nat.le_of_ble_eq_true rfl) (by omega) (fun _ _ hx => hx) h655 ?_
      intro r659 M657 h658
      refine z_iload dL_law__1758 rfl ?_
      refine z_icmp_eq (tgt := 1765) dL_law__1760 (by decide) (fun g660 => ?_) (fun g660 => ?_)
      · have h661 := h658.1 g660
        refine z_iload dL_law__1765 rfl ?_
        refine z_if_ne (tgt := 1782) dL_law__1767 (by decide) (fun g663 => ?_) (fun g663 => ?_)
        · have h664 := h661.1 g663
          refine z_weak [true, true, true, true, true, false, false] (ls' := [.ref 400, .ref 19, .ref 0, .ref 18, .int y4, zU, zU]) rfl rfl ?_
          exact h664
        · have h665 := h661.2 g663
          refine z_aload_n dL_law__1770 rfl ?_
          refine z_iconst (v := (0 : Int32)) dL_law__1771 rfl ?_
          refine z_lald dL_law__1772 zs_18 (by unfold vp_in; decide) ?_
          refine z_iload dL_law__1773 rfl ?_
          refine z_i2l (v := ((r656).toInt64)) dL_law__1775 rfl ?_
          refine z_lcmp dL_law__1776 ?_
          refine z_if_eq (tgt := 1782) dL_law__1777 (by decide) (fun g666 => ?_) (fun g666 => ?_)
          · have h667 := h665.1 g666
            refine z_weak [true, true, true, true, true, false, false] (ls' := [.ref 400, .ref 19, .ref 0, .ref 18, .int y4, zU, zU]) rfl rfl ?_
            exact h667
          · have h668 := h665.2 g666
            refine z_iconst (v := (0 : Int32)) dL_law__1780 rfl ?_
            exact z_iret dL_law__1781 rfl (by decide) (by omega) h668
      · have h662 := h658.2 g660
        refine z_iconst (v := (0 : Int32)) dL_law__1763 rfl ?_
        exact z_iret dL_law__1764 rfl (by decide) (by omega) h662
    have h669 := h648.2 g649
    by_cases g670 : ((zxs E (y4).toNatClampNeg) &&& (63 : Int32)) = (29 : Int32)
    · have h671 := h669.1 g670
      refine z_tableIn (tgt := 1785) dL_law__40 (by rw [g670]; decide) (by rw [g670]; decide) (by rw [g670]; rfl) (by decide) ?_
      refine z_aload_n dL_law__1785 rfl ?_
      refine z_callVi (As := []) (st := []) dL_law__1786 zi_L_251 rfl rfl zs_19 rfl rfl (Nat.le_of_ble_eq_true rfl) (by omega) (fun _ _ hx => hx) h671 ?_
      intro r674 M672 h673
      refine z_aload_n dL_law__1789 rfl ?_
      refine z_callVi (As := []) (st := [.int r674]) dL_law__1790 zi_L_254 rfl rfl zs_0 rfl rfl (Nat.le_of_ble_eq_true rfl) (by omega) (fun _ _ hx => hx) h673 ?_
      intro r677 M675 h676
      refine z_icmp_eq (tgt := 3090) dL_law__1793 (by decide) (fun g678 => ?_) (fun g678 => ?_)
      · have h679 := h676.1 g678
        exact h679
      · have h680 := h676.2 g678
        refine z_iconst (v := (0 : Int32)) dL_law__1796 rfl ?_
        exact z_iret dL_law__1797 rfl (by decide) (by omega) h680
    have h681 := h669.2 g670
    by_cases g682 : ((zxs E (y4).toNatClampNeg) &&& (63 : Int32)) = (30 : Int32)
    · have h683 := h681.1 g682
      refine z_tableIn (tgt := 1798) dL_law__40 (by rw [g682]; decide) (by rw [g682]; decide) (by rw [g682]; rfl) (by decide) ?_
      refine z_aload_n dL_law__1798 rfl ?_
      refine z_aload_n dL_law__1799 rfl ?_
      refine z_iload dL_law__1800 rfl ?_
      refine z_iconst (v := (1 : Int32)) dL_law__1802 rfl ?_
      refine z_iadd dL_law__1803 ?_
      obtain ⟨g685, h684⟩ := h683
      refine z_sld dL_law__1804 g685 ?_
      refine z_aload_n dL_law__1805 rfl ?_
      refine z_callWi (As := [.ref 19, .int (zxs E ((y4 + (1 : Int32))).toNatClampNeg), .ref 18]) (st := []) dL_law__1806 zi_L_255 rfl rfl (Nat.le_of_ble_eq_true rfl) (by omega) h684 ?_
      intro r688 M686 h687
      refine z_istore dL_law__1809 (by decide) (ls' := [.ref 400, .ref 19, .ref 0, .ref 18, .int y4, .int r688, zU]) rfl ?_
      refine z_aload_n dL_law__1811 rfl ?_
      refine z_aload_n dL_law__1812 rfl ?_
      refine z_iload dL_law__1813 rfl ?_
      refine z_iconst (v := (1 : Int32)) dL_law__1815 rfl ?_
      refine z_iadd dL_law__1816 ?_
      obtain ⟨g690, h689⟩ := h687
      refine z_sld dL_law__1817 g690 ?_
      refine z_callVi (As := [.int (zxs E ((y4 + (1 : Int32))).toNatClampNeg)]) (st := []) dL_law__1818 zi_L_257 rfl rfl zs_0 rfl rfl (Nat.le_of_ble_eq_true rfl) (by omega) (fun _ _ hx => hx) h689 ?_
      intro r693 M691 h692
      refine z_istore dL_law__1821 (by decide) (ls' := [.ref 400, .ref 19, .ref 0, .ref 18, .int y4, .int r688, .int r693]) rfl ?_
      refine z_aload_n dL_law__1823 rfl ?_
      refine z_callVi (As := []) (st := []) dL_law__1824 zi_L_163 rfl rfl zs_0 rfl rfl (Nat.le_of_ble_eq_true rfl) (by omega) (fun _ _ hx => hx) h692 ?_
      intro r696 M694 h695
      refine z_iload dL_law__1827 rfl ?_
      refine z_icmp_eq (tgt := 1834) dL_law__1829 (by decide) (fun g697 => ?_) (fun g697 => ?_)
      · have h698 := h695.1 g697
        refine z_iload dL_law__1834 rfl ?_
        refine z_if_ne (tgt := 1851) dL_law__1836 (by decide) (fun g700 => ?_) (fun g700 => ?_)
        · have h701 := h698.1 g700
          refine z_weak [true, true, true, true, true, false, false] (ls' := [.ref 400, .ref 19, .ref 0, .ref 18, .int y4, zU, zU]) rfl rfl ?_
          exact h701
        · have h702 := h698.2 g700
          refine z_aload_n dL_law__1839 rfl ?_
          refine z_iconst (v := (0 : Int32)) dL_law__1840 rfl ?_
          refine z_lald dL_law__1841 zs_18 (by unfold vp_in; decide) ?_
          refine z_iload dL_law__1842 rfl ?_
          refine z_i2l (v := ((r693).toInt64)) dL_law__1844 rfl ?_
          refine z_lcmp dL_law__1845 ?_
          refine z_if_eq (tgt := 1851) dL_law__1846 (by decide) (fun g703 => ?_) (fun g703 => ?_)
          · have h704 := h702.1 g703
            refine z_weak [true, true, true, true, true, false, false] (ls' := [.ref 400, .ref 19, .ref 0, .ref 18, .int y4, zU, zU]) rfl rfl ?_
            exact h704
          · have h705 := h702.2 g703
            refine z_iconst (v := (0 : Int32)) dL_law__1849 rfl ?_
            exact z_iret dL_law__1850 rfl (by decide) (by omega) h705
      · have h699 := h695.2 g697
        refine z_iconst (v := (0 : Int32)) dL_law__1832 rfl ?_
        exact z_iret dL_law__1833 rfl (by decide) (by omega) h699
    have h706 := h681.2 g682
    by_cases g707 : ((zxs E (y4).toNatClampNeg) &&& (63 : Int32)) = (31 : Int32)
    · have h708 := h706.1 g707
      refine z_tableIn (tgt := 1854) dL_law__40 (by rw [g707]; decide) (by rw [g707]; decide) (by rw [g707]; rfl) (by decide) ?_
      refine z_aload_n dL_law__1854 rfl ?_
      refine z_aload_n dL_law__1855 rfl ?_
      refine z_iload dL_law__1856 rfl ?_
      refine z_iconst (v := (1 : Int32)) dL_law__1858 rfl ?_
      refine z_iadd dL_law__1859 ?_
      obtain ⟨g710, h709⟩ := h708
      refine z_sld dL_law__1860 g710 ?_
      refine z_aload_n dL_law__1861 rfl ?_
      refine z_callWi (As := [.ref 19, .int (zxs E ((y4 + (1 : Int32))).toNatClampNeg), .ref 18]) (st := []) dL_law__1862 zi_L_258 rfl rfl (Nat.le_of_ble_eq_true rfl) (by omega) h709 ?_
      intro r713 M711 h712
      refine z_istore dL_law__1865 (by decide) (ls' := [.ref 400, .ref 19, .ref 0, .ref 18, .int y4, .int r713, zU]) rfl ?_
      refine z_aload_n dL_law__1867 rfl ?_
      refine z_aload_n dL_law__1868 rfl ?_
      refine z_iload dL_law__1869 rfl ?_
      refine z_iconst (v := (1 : Int32)) dL_law__1871 rfl ?_
      refine z_iadd dL_law__1872 ?_
      obtain ⟨g715, h714⟩ := h712
      refine z_sld dL_law__1873 g715 ?_
      refine z_callVi (As := [.int (zxs E ((y4 + (1 : Int32))).toNatClampNeg)]) (st := []) dL_law__1874 zi_L_260 rfl rfl zs_0 rfl rfl (Nat.le_of_ble_eq_true rfl) (by omega) (fun _ _ hx => hx) h714 ?_
      intro r718 M716 h717
      refine z_istore dL_law__1877 (by decide) (ls' := [.ref 400, .ref 19, .ref 0, .ref 18, .int y4, .int r713, .int r718]) rfl ?_
      refine z_aload_n dL_law__1879 rfl ?_
      refine z_callVi (As := []) (st := []) dL_law__1880 zi_L_163 rfl rfl zs_0 rfl rfl (Nat.le_of_ble_eq_true rfl) (by omega) (fun _ _ hx => hx) h717 ?_
      intro r721 M719 h720
      refine z_iload dL_law__1883 rfl ?_
      refine z_icmp_eq (tgt := 1890) dL_law__1885 (by decide) (fun g722 => ?_) (fun g722 => ?_)
      · have h723 := h720.1 g722
        refine z_iload dL_law__1890 rfl ?_
        refine z_if_ne (tgt := 1907) dL_law__1892 (by decide) (fun g725 => ?_) (fun g725 => ?_)
        · have h726 := h723.1 g725
          refine z_weak [true, true, true, true, true, false, false] (ls' := [.ref 400, .ref 19, .ref 0, .ref 18, .int y4, zU, zU]) rfl rfl ?_
          exact h726
        · have h727 := h723.2 g725
          refine z_aload_n dL_law__1895 rfl ?_
          refine z_iconst (v := (0 : Int32)) dL_law__1896 rfl ?_
          refine z_lald dL_law__1897 zs_18 (by unfold vp_in; decide) ?_
          refine z_iload dL_law__1898 rfl ?_
          refine z_i2l (v := ((r718).toInt64)) dL_law__1900 rfl ?_
          refine z_lcmp dL_law__1901 ?_
          refine z_if_eq (tgt := 1907) dL_law__1902 (by decide) (fun g728 => ?_) (fun g728 => ?_)
          · have h729 := h727.1 g728
            refine z_weak [true, true, true, true, true, false, false] (ls' := [.ref 400, .ref 19, .ref 0, .ref 18, .int y4, zU, zU]) rfl rfl ?_
            exact h729
          · have h730 := h727.2 g728
            refine z_iconst (v := (0 : Int32)) dL_law__1905 rfl ?_
            exact z_iret dL_law__1906 rfl (by decide) (by omega) h730
      · have h724 := h720.2 g722
        refine z_iconst (v := (0 : Int32)) dL_law__1888 rfl ?_
        exact z_iret dL_law__1889 rfl (by decide) (by omega) h724
    have h731 := h706.2 g707
    by_cases g732 : ((zxs E (y4).toNatClampNeg) &&& (63 : Int32)) = (32 : Int32)
    · have h733 := h731.1 g732
      refine z_tableIn (tgt := 1910) dL_law__40 (by rw [g732]; decide) (by rw [g732]; decide) (by rw [g732]; rfl) (by decide) ?_
      refine z_aload_n dL_law__1910 rfl ?_
      refine z_aload_n dL_law__1911 rfl ?_
      refine z_iload dL_law__1912 rfl ?_
      refine z_iconst (v := (1 : Int32)) dL_law__1914 rfl ?_
      refine z_iadd dL_law__1915 ?_
      obtain ⟨g735, h734⟩ := h733
      refine z_sld dL_law__1916 g735 ?_
      refine z_aload_n dL_law__1917 rfl ?_
      refine z_callWi (As := [.ref 19, .int (zxs E ((y4 + (1 : Int32))).toNatClampNeg), .ref 18]) (st := []) dL_law__1918 zi_L_261 rfl rfl (Nat.le_of_ble_eq_true rfl) (by omega) h734 ?_
      intro r738 M736 h737
      refine z_istore dL_law__1921 (by decide) (ls' := [.ref 400, .ref 19, .ref 0, .ref 18, .int y4, .int r738, zU]) rfl ?_
      refine z_aload_n dL_law__1923 rfl ?_
      refine z_aload_n dL_law__1924 rfl ?_
      refine z_iload dL_law__1925 rfl ?_
      refine z_iconst (v := (1 : Int32)) dL_law__1927 rfl ?_
      refine z_iadd dL_law__1928 ?_
      obtain ⟨g740, h739⟩ := h737
      refine z_sld dL_law__1929 g740 ?_
      refine z_callVi (As := [.int (zxs E ((y4 + (1 : Int32))).toNatClampNeg)]) (st := []) dL_law__1930 zi_L_263 rfl rfl zs_0 rfl rfl (Nat.le_of_ble_eq_true rfl) (by omega) (fun _ _ hx => hx) h739 ?_
      intro r743 M741 h742
      refine z_istore dL_law__1933 (by decide) (ls' := [.ref 400, .ref 19, .ref 0, .ref 18, .int y4, .int r738, .int r743]) rfl ?_
      refine z_aload_n dL_law__1935 rfl ?_
      refine z_callVi (As := []) (st := []) dL_law__1936 zi_L_163 rfl rfl zs_0 rfl rfl (Nat.le_of_ble_eq_true rfl) (by omega) (fun _ _ hx => hx) h742 ?_
      intro r746 M744 h745
      refine z_iload dL_law__1939 rfl ?_
      refine z_icmp_eq (tgt := 1946) dL_law__1941 (by decide) (fun g747 => ?_) (fun g747 => ?_)
      · have h748 := h745.1 g747
        refine z_iload dL_law__1946 rfl ?_
        refine z_if_ne (tgt := 1963) dL_law__1948 (by decide) (fun g750 => ?_) (fun g750 => ?_)
        · have h751 := h748.1 g750
          refine z_weak [true, true, true, true, true, false, false] (ls' := [.ref 400, .ref 19, .ref 0, .ref 18, .int y4, zU, zU]) rfl rfl ?_
          exact h751
        · have h752 := h748.2 g750
          refine z_aload_n dL_law__1951 rfl ?_
          refine z_iconst (v := (0 : Int32)) dL_law__1952 rfl ?_
          refine z_lald dL_law__1953 zs_18 (by unfold vp_in; decide) ?_
          refine z_iload dL_law__1954 rfl ?_
          refine z_i2l (v := ((r743).toInt64)) dL_law__1956 rfl ?_
          refine z_lcmp dL_law__1957 ?_
          refine z_if_eq (tgt := 1963) dL_law__1958 (by decide) (fun g753 => ?_) (fun g753 => ?_)
          · have h754 := h752.1 g753
            refine z_weak [true, true, true, true, true, false, false] (ls' := [.ref 400, .ref 19, .ref 0, .ref 18, .int y4, zU, zU]) rfl rfl ?_
            exact h754
          · have h755 := h752.2 g753
            refine z_iconst (v := (0 : Int32)) dL_law__1961 rfl ?_
            exact z_iret dL_law__1962 rfl (by decide) (by omega) h755
      · have h749 := h745.2 g747
        refine z_iconst (v := (0 : Int32)) dL_law__1944 rfl ?_
        exact z_iret dL_law__1945 rfl (by decide) (by omega) h749
    have h756 := h731.2 g732
    by_cases g757 : ((zxs E (y4).toNatClampNeg) &&& (63 : Int32)) = (33 : Int32)
    · have h758 := h756.1 g757
      refine z_tableIn (tgt := 1966) dL_law__40 (by rw [g757]; decide) (by rw [g757]; decide) (by rw [g757]; rfl) (by decide) ?_
      refine z_aload_n dL_law__1966 rfl ?_
      refine z_aload_n dL_law__1967 rfl ?_
      refine z_iload dL_law__1968 rfl ?_
      refine z_iconst (v := (1 : Int32)) dL_law__1970 rfl ?_
      refine z_iadd dL_law__1971 ?_
      obtain ⟨g760, h759⟩ := h758
      refine z_sld dL_law__1972 g760 ?_
      refine z_aload_n dL_law__1973 rfl ?_
      refine z_iload dL_law__1974 rfl ?_
      refine z_iconst (v := (2 : Int32)) dL_law__1976 rfl ?_
      refine z_iadd dL_law__1977 ?_
      obtain ⟨g762, h761⟩ := h759
      refine z_sld dL_law__1978 g762 ?_
      refine z_aload_n dL_law__1979 rfl ?_
      refine z_callWi (As := [.ref 19, .int (zxs E ((y4 + (1 : Int32))).toNatClampNeg), .int (zxs E ((y4 + (2 : Int32))).toNatClampNeg), .ref 18]) (st := []) dL_law__1980 zi_L_264 rfl rfl (Nat.le_of_ble_eq_true rfl) (by omega) h761 ?_
      intro r765 M763 h764
      refine z_istore dL_law__1983 (by decide) (ls' := [.ref 400, .ref 19, .ref 0, .ref 18, .int y4, .int r765, zU]) rfl ?_
      refine z_aload_n dL_law__1985 rfl ?_
      refine z_aload_n dL_law__1986 rfl ?_
      refine z_iload dL_law__1987 rfl ?_
      refine z_iconst (v := (1 : Int32)) dL_law__1989 rfl ?_
      refine z_iadd dL_law__1990 ?_
      obtain ⟨g767, h766⟩ := h764
      refine z_sld dL_law__1991 g767 ?_
      refine z_aload_n dL_law__1992 rfl ?_
      refine z_iload dL_law__1993 rfl ?_
      refine z_iconst (v := (2 : Int32)) dL_law__1995 rfl ?_
      refine z_iadd dL_law__1996 ?_
      obtain ⟨g769, h768⟩ := h766
      refine z_sld dL_law__1997 g769 ?_
      refine z_callVi (As := [.int (zxs E ((y4 + (1 : Int32))).toNatClampNeg), .int (zxs E ((y4 + (2 : Int32))).toNatClampNeg)]) (st := []) dL_law__1998 zi_L_266 rfl rfl zs_0 rfl rfl (Nat.le_of_ble_eq_true rfl) (by omega) (fun _ _ hx => hx) h768 ?_
      intro r772 M770 h771
      refine z_istore dL_law__2001 (by decide) (ls' := [.ref 400, .ref 19, .ref 0, .ref 18, .int y4, .int r765, .int r772]) rfl ?_
      refine z_aload_n dL_law__2003 rfl ?_
      refine z_callVi (As := []) (st := []) dL_law__2004 zi_L_163 rfl rfl zs_0 rfl rfl (Nat.le_of_ble_eq_true rfl) (by omega) (fun _ _ hx => hx) h771 ?_
      intro r775 M773 h774
      refine z_iload dL_law__2007 rfl ?_
      refine z_icmp_eq (tgt := 2014) dL_law__2009 (by decide) (fun g776 => ?_) (fun g776 => ?_)
      · have h777 := h774.1 g776
        refine z_iload dL_law__2014 rfl ?_
        refine z_if_ne (tgt := 2031) dL_law__2016 (by decide) (fun g779 => ?_) (fun g779 => ?_)
        · have h780 := h777.1 g779
          refine z_weak [true, true, true, true, true, false, false] (ls' := [.ref 400, .ref 19, .ref 0, .ref 18, .int y4, zU, zU]) rfl rfl ?_
          exact h780
        · have h781 := h777.2 g779
          refine z_aload_n dL_law__2019 rfl ?_
          refine z_iconst (v := (0 : Int32)) dL_law__2020 rfl ?_
          refine z_lald dL_law__2021 zs_18 (by unfold vp_in; decide) ?_
          refine z_iload dL_law__2022 rfl ?_
          refine z_i2l (v := ((r772).toInt64)) dL_law__2024 rfl ?_
          refine z_lcmp dL_law__2025 ?_
          refine z_if_eq (tgt := 2031) dL_law__2026 (by decide) (fun g782 => ?_) (fun g782 => ?_)
          · have h783 := h781.1 g782
            refine z_weak [true, true, true, true, true, false, false] (ls' := [.ref 400, .ref 19, .ref 0, .ref 18, .int y4, zU, zU]) rfl rfl ?_
            exact h783
          · have h784 := h781.2 g782
            refine z_iconst (v := (0 : Int32)) dL_law__2029 rfl ?_
            exact z_iret dL_law__2030 rfl (by decide) (by omega) h784
      · have h778 := h774.2 g776
        refine z_iconst (v := (0 : Int32)) dL_law__2012 rfl ?_
        exact z_iret dL_law__2013 rfl (by decide) (by omega) h778
    have h785 := h756.2 g757
    by_cases g786 : ((zxs E (y4).toNatClampNeg) &&& (63 : Int32)) = (34 : Int32)
    · have h787 := h785.1 g786
      refine z_tableIn (tgt := 2034) dL_law__40 (by rw [g786]; decide) (by rw [g786]; decide) (by rw [g786]; rfl) (by decide) ?_
      refine z_aload_n dL_law__2034 rfl ?_
      refine z_aload_n dL_law__2035 rfl ?_
      refine z_callWi (As := [.ref 19, .ref 18]) (st := []) dL_law__2036 zi_L_267 rfl rfl (Nat.le_of_ble_eq_true rfl) (by omega) h787 ?_
      intro r790 M788 h789
      refine z_istore dL_law__2039 (by decide) (ls' := [.ref 400, .ref 19, .ref 0, .ref 18, .int y4, .int r790, zU]) rfl ?_
      refine z_aload_n dL_law__2041 rfl ?_
      refine z_callVi (As := []) (st := []) dL_law__2042 zi_L_269 rfl rfl zs_0 rfl rfl (Nat.le_of_ble_eq_true rfl) (by omega) (fun _ _ hx => hx) h789 ?_
      intro r793 M791 h792
      refine z_istore dL_law__2045 (by decide) (ls' := [.ref 400, .ref 19, .ref 0, .ref 18, .int y4, .int r790, .int r793]) rfl ?_
      refine z_aload_n dL_law__2047 rfl ?_
      refine z_callVi (As := []) (st := []) dL_law__2048 zi_L_163 rfl rfl zs_0 rfl rfl (Nat.le_of_ble_eq_true rfl) (by omega) (fun _ _ hx => hx) h792 ?_
      intro r796 M794 h795
      refine z_iload dL_law__2051 rfl ?_
      refine z_icmp_eq (tgt := 2058) dL_law__2053 (by decide) (fun g797 => ?_) (fun g797 => ?_)
      · have h798 := h795.1 g797
        refine z_iload dL_law__2058 rfl ?_
        refine z_if_ne (tgt := 2075) dL_law__2060 (by decide) (fun g800 => ?_) (fun g800 => ?_)
        · have h801 := h798.1 g800
          refine z_weak [true, true, true, true, true, false, false] (ls' := [.ref 400, .ref 19, .ref 0, .ref 18, .int y4, zU, zU]) rfl rfl ?_
          exact h801
        · have h802 := h798.2 g800
          refine z_aload_n dL_law__2063 rfl ?_
          refine z_iconst (v := (0 : Int32)) dL_law__2064 rfl ?_
          refine z_lald dL_law__2065 zs_18 (by unfold vp_in; decide) ?_
          refine z_iload dL_law__2066 rfl ?_
          refine z_i2l (v := ((r793).toInt64)) dL_law__2068 rfl ?_
          refine z_lcmp dL_law__2069 ?_
          refine z_if_eq (tgt := 2075) dL_law__2070 (by decide) (fun g803 => ?_) (fun g803 => ?_)
          · have h804 := h802.1 g803
            refine z_weak [true, true, true, true, true, false, false] (ls' := [.ref 400, .ref 19, .ref 0, .ref 18, .int y4, zU, zU]) rfl rfl ?_
            exact h804
          · have h805 := h802.2 g803
            refine z_iconst (v := (0 : Int32)) dL_law__2073 rfl ?_
            exact z_iret dL_law__2074 rfl (by decide) (by omega) h805
      · have h799 := h795.2 g797
        refine z_iconst (v := (0 : Int32)) dL_law__2056 rfl ?_
        exact z_iret dL_law__2057 rfl (by decide) (by omega) h799
    have h806 := h785.2 g786
    by_cases g807 : ((zxs E (y4).toNatClampNeg) &&& (63 : Int32)) = (35 : Int32)
    · have h808 := h806.1 g807
      refine z_tableIn (tgt := 2078) dL_law__40 (by rw [g807]; decide) (by rw [g807]; decide) (by rw [g807]; rfl) (by decide) ?_
      refine z_aload_n dL_law__2078 rfl ?_
      refine z_aload_n dL_law__2079 rfl ?_
      refine z_iload dL_law__2080 rfl ?_
      refine z_iconst (v := (1 : Int32)) dL_law__2082 rfl ?_
      refine z_iadd dL_law__2083 ?_
      obtain ⟨g810, h809⟩ := h808
      refine z_sld dL_law__2084 g810 ?_
      refine z_aload_n dL_law__2085 rfl ?_
      refine z_callWi (As := [.ref 19, .int (zxs E ((y4 + (1 : Int32))).toNatClampNeg), .ref 18]) (st := []) dL_law__2086 zi_L_270 rfl rfl (Nat.le_of_ble_eq_true rfl) (by omega) h809 ?_
      intro r813 M811 h812
      refine z_istore dL_law__2089 (by decide) (ls' := [.ref 400, .ref 19, .ref 0, .ref 18, .int y4, .int r813, zU]) rfl ?_
      refine z_aload_n dL_law__2091 rfl ?_
      refine z_aload_n dL_law__2092 rfl ?_
      refine z_iload dL_law__2093 rfl ?_
      refine z_iconst (v := (1 : Int32)) dL_law__2095 rfl ?_
      refine z_iadd dL_law__2096 ?_
      obtain ⟨g815, h814⟩ := h812
      refine z_sld dL_law__2097 g815 ?_
      refine z_callVi (As := [.int (zxs E ((y4 + (1 : Int32))).toNatClampNeg)]) (st := []) dL_law__2098 zi_L_272 rfl rfl zs_0 rfl rfl (Nat.le_of_ble_eq_true rfl) (by omega) (fun _ _ hx => hx) h814 ?_
      intro r818 M816 h817
      refine z_istore dL_law__2101 (by decide) (ls' := [.ref 400, .ref 19, .ref 0, .ref 18, .int y4, .int r813, .int r818]) rfl ?_
      refine z_aload_n dL_law__2103 rfl ?_
      refine z_callVi (As := []) (st := []) dL_law__2104 zi_L_163 rfl rfl zs_0 rfl rfl (Nat.le_of_ble_eq_true rfl) (by omega) (fun _ _ hx => hx) h817 ?_
      intro r821 M819 h820
      refine z_iload dL_law__2107 rfl ?_
      refine z_icmp_eq (tgt := 2114) dL_law__2109 (by decide) (fun g822 => ?_) (fun g822 => ?_)
      · have h823 := h820.1 g822
        refine z_iload dL_law__2114 rfl ?_
        refine z_if_ne (tgt := 2131) dL_law__2116 (by decide) (fun g825 => ?_) (fun g825 => ?_)
        · have h826 := h823.1 g825
          refine z_weak [true, true, true, true, true, false, false] (ls' := [.ref 400, .ref 19, .ref 0, .ref 18, .int y4, zU, zU]) rfl rfl ?_
          exact h826
        · have h827 := h823.2 g825
          refine z_aload_n dL_law__2119 rfl ?_
          refine z_iconst (v := (0 : Int32)) dL_law__2120 rfl ?_
          refine z_lald dL_law__2121 zs_18 (by unfold vp_in; decide) ?_
          refine z_iload dL_law__2122 rfl ?_
          refine z_i2l (v := ((r818).toInt64)) dL_law__2124 rfl ?_
          refine z_lcmp dL_law__2125 ?_
          refine z_if_eq (tgt := 2131) dL_law__2126 (by decide) (fun g828 => ?_) (fun g828 => ?_)
          · have h829 := h827.1 g828
            refine z_weak [true, true, true, true, true, false, false] (ls' := [.ref 400, .ref 19, .ref 0, .ref 18, .int y4, zU, zU]) rfl rfl ?_
            exact h829
          · have h830 := h827.2 g828
            refine z_iconst (v := (0 : Int32)) dL_law__2129 rfl ?_
            exact z_iret dL_law__2130 rfl (by decide) (by omega) h830
      · have h824 := h820.2 g822
        refine z_iconst (v := (0 : Int32)) dL_law__2112 rfl ?_
        exact z_iret dL_law__2113 rfl (by decide) (by omega) h824
    have h831 := h806.2 g807
    by_cases g832 : ((zxs E (y4).toNatClampNeg) &&& (63 : Int32)) = (36 : Int32)
    · have h833 := h831.1 g832
      refine z_tableIn (tgt := 2134) dL_law__40 (by rw [g832]; decide) (by rw [g832]; decide) (by rw [g832]; rfl) (by decide) ?_
      refine z_aload_n dL_law__2134 rfl ?_
      refine z_aload_n dL_law__2135 rfl ?_
      refine z_iload dL_law__2136 rfl ?_
      refine z_iconst (v := (1 : Int32)) dL_law__2138 rfl ?_
      refine z_iadd dL_law__2139 ?_
      obtain ⟨g835, h834⟩ := h833
      refine z_sld dL_law__2140 g835 ?_
      refine z_aload_n dL_law__2141 rfl ?_
      refine z_iload dL_law__2142 rfl ?_
      refine z_iconst (v := (2 : Int32)) dL_law__2144 rfl ?_
      refine z_iadd dL_law__2145 ?_
      obtain ⟨g837, h836⟩ := h834
      refine z_sld dL_law__2146 g837 ?_
      refine z_aload_n dL_law__2147 rfl ?_
      refine z_callWi (As := [.ref 19, .int (zxs E ((y4 + (1 : Int32))).toNatClampNeg), .int (zxs E ((y4 + (2 : Int32))).toNatClampNeg), .ref 18]) (st := []) dL_law__2148 zi_L_273 rfl rfl (Nat.le_of_ble_eq_true rfl) (by omega) h836 ?_
      intro r840 M838 h839
      refine z_istore dL_law__2151 (by decide) (ls' := [.ref 400, .ref 19, .ref 0, .ref 18, .int y4, .int r840, zU]) rfl ?_
      refine z_aload_n dL_law__2153 rfl ?_
      refine z_aload_n dL_law__2154 rfl ?_
      refine z_iload dL_law__2155 rfl ?_
      refine z_iconst (v := (1 : Int32)) dL_law__2157 rfl ?_
      refine z_iadd dL_law__2158 ?_
      obtain ⟨g842, h841⟩ := h839
      refine z_sld dL_law__2159 g842 ?_
      refine z_aload_n dL_law__2160 rfl ?_
      refine z_iload dL_law__2161 rfl ?_
      refine z_iconst (v := (2 : Int32)) dL_law__2163 rfl ?_
      refine z_iadd dL_law__2164 ?_
      obtain ⟨g844, h843⟩ := h841
      refine z_sld dL_law__2165 g844 ?_
      refine z_callVi (As := [.int (zxs E ((y4 + (1 : Int32))).toNatClampNeg), .int (zxs E ((y4 + (2 : Int32))).toNatClampNeg)]) (st := []) dL_law__2166 zi_L_275 rfl rfl zs_0 rfl rfl (Nat.le_of_ble_eq_true rfl) (by omega) (fun _ _ hx => hx) h843 ?_
      intro r847 M845 h846
      refine z_istore dL_law__2169 (by decide) (ls' := [.ref 400, .ref 19, .ref 0, .ref 18, .int y4, .int r840, .int r847]) rfl ?_
      refine z_aload_n dL_law__2171 rfl ?_
      refine z_callVi (As := []) (st := []) dL_law__2172 zi_L_163 rfl rfl zs_0 rfl rfl (Nat.le_of_ble_eq_true rfl) (by omega) (fun _ _ hx => hx) h846 ?_
      intro r850 M848 h849
      refine z_iload dL_law__2175 rfl ?_
      refine z_icmp_eq (tgt := 2182) dL_law__2177 (by decide) (fun g851 => ?_) (fun g851 => ?_)
      · have h852 := h849.1 g851
        refine z_iload dL_law__2182 rfl ?_
        refine z_if_ne (tgt := 2199) dL_law__2184 (by decide) (fun g854 => ?_) (fun g854 => ?_)
        · have h855 := h852.1 g854
          refine z_weak [true, true, true, true, true, false, false] (ls' := [.ref 400, .ref 19, .ref 0, .ref 18, .int y4, zU, zU]) rfl rfl ?_
          exact h855
        · have h856 := h852.2 g854
          refine z_aload_n dL_law__2187 rfl ?_
          refine z_iconst (v := (0 : Int32)) dL_law__2188 rfl ?_
          refine z_lald dL_law__2189 zs_18 (by unfold vp_in; decide) ?_
          refine z_iload dL_law__2190 rfl ?_
          refine z_i2l (v := ((r847).toInt64)) dL_law__2192 rfl ?_
          refine z_lcmp dL_law__2193 ?_
          refine z_if_eq (tgt := 2199) dL_law__2194 (by decide) (fun g857 => ?_) (fun g857 => ?_)
          · have h858 := h856.1 g857
            refine z_weak [true, true, true, true, true, false, false] (ls' := [.ref 400, .ref 19, .ref 0, .ref 18, .int y4, zU, zU]) rfl rfl ?_
            exact h858
          · have h859 := h856.2 g857
            refine z_iconst (v := (0 : Int32)) dL_law__2197 rfl ?_
            exact z_iret dL_law__2198 rfl (by decide) (by omega) h859
      · have h853 := h849.2 g851
        refine z_iconst (v := (0 : Int32)) dL_law__2180 rfl ?_
        exact z_iret dL_law__2181 rfl (by decide) (by omega) h853
    have h860 := h831.2 g832
    by_cases g861 : ((zxs E (y4).toNatClampNeg) &&& (63 : Int32)) = (37 : Int32)
    · have h862 := h860.1 g861
      refine z_tableIn (tgt := 2202) dL_law__40 (by rw [g861]; decide) (by rw [g861]; decide) (by rw [g861]; rfl) (by decide) ?_
      refine z_aload_n dL_law__2202 rfl ?_
      refine z_aload_n dL_law__2203 rfl ?_
      refine z_iload dL_law__2204 rfl ?_
      refine z_iconst (v := (1 : Int32)) dL_law__2206 rfl ?_
      refine z_iadd dL_law__2207 ?_
      obtain ⟨g864, h863⟩ := h862
      refine z_sld dL_law__2208 g864 ?_
      refine z_aload_n dL_law__2209 rfl ?_
      refine z_iload dL_law__2210 rfl ?_
      refine z_iconst (v := (2 : Int32)) dL_law__2212 rfl ?_
      refine z_iadd dL_law__2213 ?_
      obtain ⟨g866, h865⟩ := h863
      refine z_sld dL_law__2214 g866 ?_
      refine z_aload_n dL_law__2215 rfl ?_
      refine z_callWi (As := [.ref 19, .int (zxs E ((y4 + (1 : Int32))).toNatClampNeg), .int (zxs E ((y4 + (2 : Int32))).toNatClampNeg), .ref 18]) (st := []) dL_law__2216 zi_L_276 rfl rfl (Nat.le_of_ble_eq_true rfl) (by omega) h865 ?_
      intro r869 M867 h868
      refine z_istore dL_law__2219 (by decide) (ls' := [.ref 400, .ref 19, .ref 0, .ref 18, .int y4, .int r869, zU]) rfl ?_
      refine z_aload_n dL_law__2221 rfl ?_
      refine z_aload_n dL_law__2222 rfl ?_
      refine z_iload dL_law__2223 rfl ?_
      refine z_iconst (v := (1 : Int32)) dL_law__2225 rfl ?_
      refine z_iadd dL_law__2226 ?_
      obtain ⟨g871, h870⟩ := h868
      refine z_sld dL_law__2227 g871 ?_
      refine z_aload_n dL_law__2228 rfl ?_
      refine z_iload dL_law__2229 rfl ?_
      refine z_iconst (v := (2 : Int32)) dL_law__2231 rfl ?_
      refine z_iadd dL_law__2232 ?_
      obtain ⟨g873, h872⟩ := h870
      refine z_sld dL_law__2233 g873 ?_
      refine z_callVi (As := [.int (zxs E ((y4 + (1 : Int32))).toNatClampNeg), .int (zxs E ((y4 + (2 : Int32))).toNatClampNeg)]) (st := []) dL_law__2234 zi_L_278 rfl rfl zs_0 rfl rfl (Nat.le_of_ble_eq_true rfl) (by omega) (fun _ _ hx => hx) h872 ?_
      intro r876 M874 h875
      refine z_istore dL_law__2237 (by decide) (ls' := [.ref 400, .ref 19, .ref 0, .ref 18, .int y4, .int r869, .int r876]) rfl ?_
      refine z_aload_n dL_law__2239 rfl ?_
      refine z_callVi (As := []) (st := []) dL_law__2240 zi_L_163 rfl rfl zs_0 rfl rfl (Nat.le_of_ble_eq_true rfl) (by omega) (fun _ _ hx => hx) h875 ?_
      intro r879 M877 h878
      refine z_iload dL_law__2243 rfl ?_
      refine z_icmp_eq (tgt := 2250) dL_law__2245 (by decide) (fun g880 => ?_) (fun g880 => ?_)
      · have h881 := h878.1 g880
        refine z_iload dL_law__2250 rfl ?_
        refine z_if_ne (tgt := 2274) dL_law__2252 (by decide) (fun g883 => ?_) (fun g883 => ?_)
        · have h884 := h881.1 g883
          refine z_weak [true, true, true, true, true, false, false] (ls' := [.ref 400, .ref 19, .ref 0, .ref 18, .int y4, zU, zU]) rfl rfl ?_
          exact h884
        · have h885 := h881.2 g883
          refine z_aload_n dL_law__2255 rfl ?_
          refine z_iconst (v := (0 : Int32)) dL_law__2256 rfl ?_
          refine z_lald dL_law__2257 zs_18 (by unfold vp_in; decide) ?_
          refine z_iload dL_law__2258 rfl ?_
          refine z_if_eq (tgt := 2267) dL_law__2260 (by decide) (fun g886 => ?_) (fun g886 => ?_)
          · have h887 := h885.1 g886
            refine z_lconst (v := (0 : Int64)) dL_law__2267 rfl ?_
            refine z_weak [true, true, true, true, true, false, false] (ls' := [.ref 400, .ref 19, .ref 0, .ref 18, .int y4, zU, zU]) rfl rfl ?_
            exact h887
          · have h888 := h885.2 g886
            refine z_lconst (v := (1 : Int64)) dL_law__2263 rfl ?_
            refine z_goto (tgt := 2268) dL_law__2264 (by decide) ?_
            refine z_weak [true, true, true, true, true, false, false] (ls' := [.ref 400, .ref 19, .ref 0, .ref 18, .int y4, zU, zU]) rfl rfl ?_
            exact h888
      · have h882 := h878.2 g880
        refine z_iconst (v := (0 : Int32)) dL_law__2248 rfl ?_
        exact z_iret dL_law__2249 rfl (by decide) (by omega) h882
    have h889 := h860.2 g861
    by_cases g890 : ((zxs E (y4).toNatClampNeg) &&& (63 : Int32)) = (38 : Int32)
    · have h891 := h889.1 g890
      refine z_tableIn (tgt := 2277) dL_law__40 (by rw [g890]; decide) (by rw [g890]; decide) (by rw [g890]; rfl) (by decide) ?_
      refine z_aload_n dL_law__2277 rfl ?_
      refine z_callVi (As := []) (st := []) dL_law__2278 zi_L_279 rfl rfl zs_19 rfl rfl (Nat.le_of_ble_eq_true rfl) (by omega) (fun _ _ hx => hx) h891 ?_
      intro r894 M892 h893
      refine z_aload_n dL_law__2281 rfl ?_
      refine z_callVi (As := []) (st := [.int r894]) dL_law__2282 zi_L_282 rfl rfl zs_0 rfl rfl (Nat.le_of_ble_eq_true rfl) (by omega) (fun _ _ hx => hx) h893 ?_
      intro r897 M895 h896
      refine z_icmp_eq (tgt := 3090) dL_law__2285 (by decide) (fun g898 => ?_) (fun g898 => ?_)
      · have h899 := h896.1 g898
        exact h899
      · have h900 := h896.2 g898
        refine z_iconst (v := (0 : Int32)) dL_law__2288 rfl ?_
        exact z_iret dL_law__2289 rfl (by decide) (by omega) h900
    have h901 := h889.2 g890
    by_cases g902 : ((zxs E (y4).toNatClampNeg) &&& (63 : Int32)) = (39 : Int32)
    · have h903 := h901.1 g902
      refine z_tableIn (tgt := 2290) dL_law__40 (by rw [g902]; decide) (by rw [g902]; decide) (by rw [g902]; rfl) (by decide) ?_
      refine z_aload_n dL_law__2290 rfl ?_
      refine z_aload_n dL_law__2291 rfl ?_
      refine z_iload dL_law__2292 rfl ?_
      refine z_iconst (v := (1 : Int32)) dL_law__2294 rfl ?_
      refine z_iadd dL_law__2295 ?_
      obtain ⟨g905, h904⟩ := h903
      refine z_sld dL_law__2296 g905 ?_
      refine z_aload_n dL_law__2297 rfl ?_
      refine z_callWi (As := [.ref 19, .int (zxs E ((y4 + (1 : Int32))).toNatClampNeg), .ref 18]) (st := []) dL_law__2298 zi_L_283 rfl rfl (Nat.le_of_ble_eq_true rfl) (by omega) h904 ?_
      intro r908 M906 h907
      refine z_istore dL_law__2301 (by decide) (ls' := [.ref 400, .ref 19, .ref 0, .ref 18, .int y4, .int r908, zU]) rfl ?_
      refine z_aload_n dL_law__2303 rfl ?_
      refine z_aload_n dL_law__2304 rfl ?_
      refine z_iload dL_law__2305 rfl ?_
      refine z_iconst (v := (1 : Int32)) dL_law__2307 rfl ?_
      refine z_iadd dL_law__2308 ?_
      obtain ⟨g910, h909⟩ := h907
      refine z_sld dL_law__2309 g910 ?_
      refine z_callVi (As := [.int (zxs E ((y4 + (1 : Int32))).toNatClampNeg)]) (st := []) dL_law__2310 zi_L_285 rfl rfl zs_0 rfl rfl (Nat.le_of_ble_eq_true rfl) (by omega) (fun _ _ hx => hx) h909 ?_
      intro r913 M911 h912
      refine z_istore dL_law__2313 (by decide) (ls' := [.ref 400, .ref 19, .ref 0, .ref 18, .int y4, .int r908, .int r913]) rfl ?_
      refine z_aload_n dL_law__2315 rfl ?_
      refine z_callVi (As := []) (st := []) dL_law__2316 zi_L_163 rfl rfl zs_0 rfl rfl (Nat.le_of_ble_eq_true rfl) (by omega) (fun _ _ hx => hx) h912 ?_
      intro r916 M914 h915
      refine z_iload dL_law__2319 rfl ?_
      refine z_icmp_eq (tgt := 2326) dL_law__2321 (by decide) (fun g917 => ?_) (fun g917 => ?_)
      · have h918 := h915.1 g917
        refine z_iload dL_law__2326 rfl ?_
        refine z_if_ne (tgt := 2343) dL_law__2328 (by decide) (fun g920 => ?_) (fun g920 => ?_)
        · have h921 := h918.1 g920
          refine z_weak [true, true, true, true, true, false, false] (ls' := [.ref 400, .ref 19, .ref 0, .ref 18, .int y4, zU, zU]) rfl rfl ?_
          exact h921
        · have h922 := h918.2 g920
          refine z_aload_n dL_law__2331 rfl ?_
          refine z_iconst (v := (0 : Int32)) dL_law__2332 rfl ?_
          refine z_lald dL_law__2333 zs_18 (by unfold vp_in; decide) ?_
          refine z_iload dL_law__2334 rfl ?_
          refine z_i2l (v := ((r913).toInt64)) dL_law__2336 rfl ?_
          refine z_lcmp dL_law__2337 ?_
          refine z_if_eq (tgt := 2343) dL_law__2338 (by decide) (fun g923 => ?_) (fun g923 => ?_)
          · have h924 := h922.1 g923
            refine z_weak [true, true, true, true, true, false, false] (ls' := [.ref 400, .ref 19, .ref 0, .ref 18, .int y4, zU, zU]) rfl rfl ?_
            exact h924
          · have h925 := h922.2 g923
            refine z_iconst (v := (0 : Int32)) dL_law__2341 rfl ?_
            exact z_iret dL_law__2342 rfl (by decide) (by omega) h925
      · have h919 := h915.2 g917
        refine z_iconst (v := (0 : Int32)) dL_law__2324 rfl ?_
        exact z_iret dL_law__2325 rfl (by decide) (by omega) h919
    have h926 := h901.2 g902
    by_cases g927 : ((zxs E (y4).toNatClampNeg) &&& (63 : Int32)) = (40 : Int32)
    · have h928 := h926.1 g927
      refine z_tableIn (tgt := 2346) dL_law__40 (by rw [g927]; decide) (by rw [g927]; decide) (by rw [g927]; rfl) (by decide) ?_
      refine z_aload_n dL_law__2346 rfl ?_
      refine z_aload_n dL_law__2347 rfl ?_
      refine z_iload dL_law__2348 rfl ?_
      refine z_iconst (v := (1 : Int32)) dL_law__2350 rfl ?_
      refine z_iadd dL_law__2351 ?_
      obtain ⟨g930, h929⟩ := h928
      refine z_sld dL_law__2352 g930 ?_
      refine z_aload_n dL_law__2353 rfl ?_
      refine z_iload dL_law__2354 rfl ?_
      refine z_iconst (v := (2 : Int32)) dL_law__2356 rfl ?_
      refine z_iadd dL_law__2357 ?_
      obtain ⟨g932, h931⟩ := h929
      refine z_sld dL_law__2358 g932 ?_
      refine z_aload_n dL_law__2359 rfl ?_
      refine z_callWi (As := [.ref 19, .int (zxs E ((y4 + (1 : Int32))).toNatClampNeg), .int (zxs E ((y4 + (2 : Int32))).toNatClampNeg), .ref 18]) (st := []) dL_law__2360 zi_L_286 rfl rfl (Nat.le_of_ble_eq_true rfl) (by omega) h931 ?_
      intro r935 M933 h934
      refine z_istore dL_law__2363 (by decide) (ls' := [.ref 400, .ref 19, .ref 0, .ref 18, .int y4, .int r935, zU]) rfl ?_
      refine z_aload_n dL_law__2365 rfl ?_
      refine z_aload_n dL_law__2366 rfl ?_
      refine z_iload dL_law__2367 rfl ?_
      refine z_iconst (v := (1 : Int32)) dL_law__2369 rfl ?_
      refine z_iadd dL_law__2370 ?_
      obtain ⟨g937, h936⟩ := h934
      refine z_sld dL_law__2371 g937 ?_
      refine z_aload_n dL_law__2372 rfl ?_
      refine z_iload dL_law__2373 rfl ?_
      refine z_iconst (v := (2 : Int32)) dL_law__2375 rfl ?_
      refine z_iadd dL_law__2376 ?_
      obtain ⟨g939, h938⟩ := h936
      refine z_sld dL_law__2377 g939 ?_
      refine z_callVi (As := [.int (zxs E ((y4 + (1 : Int32))).toNatClampNeg), .int (zxs E ((y4 + (2 : Int32))).toNatClampNeg)]) (st := []) dL_law__2378 zi_L_288 rfl rfl zs_0 rfl rfl (Nat.le_of_ble_eq_true rfl) (by omega) (fun _ _ hx => hx) h938 ?_
      intro r942 M940 h941
      refine z_istore dL_law__2381 (by decide) (ls' := [.ref 400, .ref 19, .ref 0, .ref 18, .int y4, .int r935, .int r942]) rfl ?_
      refine z_aload_n dL_law__2383 rfl ?_
      refine z_callVi (As := []) (st := []) dL_law__2384 zi_L_163 rfl rfl zs_0 rfl rfl (Nat.le_of_ble_eq_true rfl) (by omega) (fun _ _ hx => hx) h941 ?_
      intro r945 M943 h944
      refine z_iload dL_law__2387 rfl ?_
      refine z_icmp_eq (tgt := 2394) dL_law__2389 (by decide) (fun g946 => ?_) (fun g946 => ?_)
      · have h947 := h944.1 g946
        refine z_iload dL_law__2394 rfl ?_
        refine z_if_ne (tgt := 2411) dL_law__2396 (by decide) (fun g949 => ?_) (fun g949 => ?_)
        · have h950 := h947.1 g949
          refine z_weak [true, true, true, true, true, false, false] (ls' := [.ref 400, .ref 19, .ref 0, .ref 18, .int y4, zU, zU]) rfl rfl ?_
          exact h950
        · have h951 := h947.2 g949
          refine z_aload_n dL_law__2399 rfl ?_
          refine z_iconst (v := (0 : Int32)) dL_law__2400 rfl ?_
          refine z_lald dL_law__2401 zs_18 (by unfold vp_in; decide) ?_
          refine z_iload dL_law__2402 rfl ?_
          refine z_i2l (v := ((r942).toInt64)) dL_law__2404 rfl ?_
          refine z_lcmp dL_law__2405 ?_
          refine z_if_eq (tgt := 2411) dL_law__2406 (by decide) (fun g952 => ?_) (fun g952 => ?_)
          · have h953 := h951.1 g952
            refine z_weak [true, true, true, true, true, false, false] (ls' := [.ref 400, .ref 19, .ref 0, .ref 18, .int y4, zU, zU]) rfl rfl ?_
            exact h953
          · have h954 := h951.2 g952
            refine z_iconst (v := (0 : Int32)) dL_law__2409 rfl ?_
            exact z_iret dL_law__2410 rfl (by decide) (by omega) h954
      · have h948 := h944.2 g946
        refine z_iconst (v := (0 : Int32)) dL_law__2392 rfl ?_
        exact z_iret dL_law__2393 rfl (by decide) (by omega) h948
    have h955 := h926.2 g927
    by_cases g956 : ((zxs E (y4).toNatClampNeg) &&& (63 : Int32)) = (41 : Int32)
    · have h957 := h955.1 g956
      refine z_tableIn (tgt := 2414) dL_law__40 (by rw [g956]; decide) (by rw [g956]; decide) (by rw [g956]; rfl) (by decide) ?_
      refine z_aload_n dL_law__2414 rfl ?_
      refine z_callVi (As := []) (st := []) dL_law__2415 zi_L_289 rfl rfl zs_19 rfl rfl (Nat.le_of_ble_eq_true rfl) (by omega) (fun _ _ hx => hx) h957 ?_
      intro r960 M958 h959
      refine z_aload_n dL_law__2418 rfl ?_
      refine z_callVi (As := []) (st := [.int r960]) dL_law__2419 zi_L_292 rfl rfl zs_0 rfl rfl (Nat.le_of_ble_eq_true rfl) (by omega) (fun _ _ hx => hx) h959 ?_
      intro r963 M961 h962
      refine z_icmp_eq (tgt := 3090) dL_law__2422 (by decide) (fun g964 => ?_) (fun g964 => ?_)
      · have h965 := h962.1 g964
        exact h965
      · have h966 := h962.2 g964
        refine z_iconst (v := (0 : Int32)) dL_law__2425 rfl ?_
        exact z_iret dL_law__2426 rfl (by decide) (by omega) h966
    have h967 := h955.2 g956
    by_cases g968 : ((zxs E (y4).toNatClampNeg) &&& (63 : Int32)) = (42 : Int32)
    · have h969 := h967.1 g968
      refine z_tableIn (tgt := 2427) dL_law__40 (by rw [g968]; decide) (by rw [g968]; decide) (by rw [g968]; rfl) (by decide) ?_
      refine z_aload_n dL_law__2427 rfl ?_
      refine z_aload_n dL_law__2428 rfl ?_
      refine z_iload dL_law__2429 rfl ?_
      refine z_iconst (v := (1 : Int32)) dL_law__2431 rfl ?_
      refine z_iadd dL_law__2432 ?_
      obtain ⟨g971, h970⟩ := h969
      refine z_sld dL_law__2433 g971 ?_
      refine z_aload_n dL_law__2434 rfl ?_
      refine z_iload dL_law__2435 rfl ?_
      refine z_iconst (v := (2 : Int32)) dL_law__2437 rfl ?_
      refine z_iadd dL_law__2438 ?_
      obtain ⟨g973, h972⟩ := h970
      refine z_sld dL_law__2439 g973 ?_
      refine z_aload_n dL_law__2440 rfl ?_
      refine z_callWi (As := [.ref 19, .int (zxs E ((y4 + (1 : Int32))).toNatClampNeg), .int (zxs E ((y4 + (2 : Int32))).toNatClampNeg), .ref 18]) (st := []) dL_law__2441 zi_L_293 rfl rfl (Nat.le_of_ble_eq_true rfl) (by omega) h972 ?_
      intro r976 M974 h975
      refine z_istore dL_law__2444 (by decide) (ls' := [.ref 400, .ref 19, .ref 0, .ref 18, .int y4, .int r976, zU]) rfl ?_
      refine z_aload_n dL_law__2446 rfl ?_
      refine z_aload_n dL_law__2447 rfl ?_
      refine z_iload dL_law__2448 rfl ?_
      refine z_iconst (v := (1 : Int32)) dL_law__2450 rfl ?_
      refine z_iadd dL_law__2451 ?_
      obtain ⟨g978, h977⟩ := h975
      refine z_sld dL_law__2452 g978 ?_
      refine z_aload_n dL_law__2453 rfl ?_
      refine z_iload dL_law__2454 rfl ?_
      refine z_iconst (v := (2 : Int32)) dL_law__2456 rfl ?_
      refine z_iadd dL_law__2457 ?_
      obtain ⟨g980, h979⟩ := h977
      refine z_sld dL_law__2458 g980 ?_
      refine z_callVi (As := [.int (zxs E ((y4 + (1 : Int32))).toNatClampNeg), .int (zxs E ((y4 + (2 : Int32))).toNatClampNeg)]) (st := []) dL_law__2459 zi_L_295 rfl rfl zs_0 rfl rfl (Nat.le_of_ble_eq_true rfl) (by omega) (fun _ _ hx => hx) h979 ?_
      intro r983 M981 h982
      refine z_istore dL_law__2462 (by decide) (ls' := [.ref 400, .ref 19, .ref 0, .ref 18, .int y4, .int r976, .int r983]) rfl ?_
      refine z_aload_n dL_law__2464 rfl ?_
      refine z_callVi (As := []) (st := []) dL_law__2465 zi_L_163 rfl rfl zs_0 rfl rfl (Nat.le_of_ble_eq_true rfl) (by omega) (fun _ _ hx => hx) h982 ?_
      intro r986 M984 h985
      refine z_iload dL_law__2468 rfl ?_
      refine z_icmp_eq (tgt := 2475) dL_law__2470 (by decide) (fun g987 => ?_) (fun g987 => ?_)
      · have h988 := h985.1 g987
        refine z_iload dL_law__2475 rfl ?_
        refine z_if_ne (tgt := 2492) dL_law__2477 (by decide) (fun g990 => ?_) (fun g990 => ?_)
        · have h991 := h988.1 g990
          refine z_weak [true, true, true, true, true, false, false] (ls' := [.ref 400, .ref 19, .ref 0, .ref 18, .int y4, zU, zU]) rfl rfl ?_
          exact h991
        · have h992 := h988.2 g990
          refine z_aload_n dL_law__2480 rfl ?_
          refine z_iconst (v := (0 : Int32)) dL_law__2481 rfl ?_
          refine z_lald dL_law__2482 zs_18 (by unfold vp_in; decide) ?_
          refine z_iload dL_law__2483 rfl ?_
          refine z_i2l (v := ((r983).toInt64)) dL_law__2485 rfl ?_
          refine z_lcmp dL_law__2486 ?_
          refine z_if_eq (tgt := 2492) dL_law__2487 (by decide) (fun g993 => ?_) (fun g993 => ?_)
          · have h994 := h992.1 g993
            refine z_weak [true, true, true, true, true, false, false] (ls' := [.ref 400, .ref 19, .ref 0, .ref 18, .int y4, zU, zU]) rfl rfl ?_
            exact h994
          · have h995 := h992.2 g993
            refine z_iconst (v := (0 : Int32)) dL_law__2490 rfl ?_
            exact z_iret dL_law__2491 rfl (by decide) (by omega) h995
      · have h989 := h985.2 g987
        refine z_iconst (v := (0 : Int32)) dL_law__2473 rfl ?_
        exact z_iret dL_law__2474 rfl (by decide) (by omega) h989
    have h996 := h967.2 g968
    by_cases g997 : ((zxs E (y4).toNatClampNeg) &&& (63 : Int32)) = (43 : Int32)
    · have h998 := h996.1 g997
      refine z_tableIn (tgt := 2495) dL_law__40 (by rw [g997]; decide) (by rw [g997]; decide) (by rw [g997]; rfl) (by decide) ?_
      refine z_aload_n dL_law__2495 rfl ?_
      refine z_aload_n dL_law__2496 rfl ?_
      refine z_iload dL_law__2497 rfl ?_
      refine z_iconst (v := (1 : Int32)) dL_law__2499 rfl ?_
      refine z_iadd dL_law__2500 ?_
      obtain ⟨g1000, h999⟩ := h998
      refine z_sld dL_law__2501 g1000 ?_
      refine z_aload_n dL_law__2502 rfl ?_
      refine z_iload dL_law__2503 rfl ?_
      refine z_iconst (v := (2 : Int32)) dL_law__2505 rfl ?_
      refine z_iadd dL_law__2506 ?_
      obtain ⟨g1002, h1001⟩ := h999
      refine z_sld dL_law__2507 g1002 ?_
      refine z_aload_n dL_law__2508 rfl ?_
      refine z_callWi (As := [.ref 19, .int (zxs E ((y4 + (1 : Int32))).toNatClampNeg), .int (zxs E ((y4 + (2 : Int32))).toNatClampNeg), .ref 18]) (st := []) dL_law__2509 zi_L_296 rfl rfl (Nat.le_of_ble_eq_true rfl) (by omega) h1001 ?_
      intro r1005 M1003 h1004
      refine z_istore dL_law__2512 (by decide) (ls' := [.ref 400, .ref 19, .ref 0, .ref 18, .int y4, .int r1005, zU]) rfl ?_
      refine z_aload_n dL_law__2514 rfl ?_
      refine z_aload_n dL_law__2515 rfl ?_
      refine z_iload dL_law__2516 rfl ?_
      refine z_iconst (v := (1 : Int32)) dL_law__2518 rfl ?_
      refine z_iadd dL_law__2519 ?_
      obtain ⟨g1007, h1006⟩ := h1004
      refine z_sld dL_law__2520 g1007 ?_
      refine z_aload_n dL_law__2521 rfl ?_
      refine z_iload dL_law__2522 rfl ?_
      refine z_iconst (v := (2 : Int32)) dL_law__2524 rfl ?_
      refine z_iadd dL_law__2525 ?_
      obtain ⟨g1009, h1008⟩ := h1006
      refine z_sld dL_law__2526 g1009 ?_
      refine z_callVi (As := [.int (zxs E ((y4 + (1 : Int32))).toNatClampNeg), .int (zxs E ((y4 + (2 : Int32))).toNatClampNeg)]) (st := []) dL_law__2527 zi_L_298 rfl rfl zs_0 rfl rfl (Nat.le_of_ble_eq_true rfl) (by omega) (fun _ _ hx => hx) h1008 ?_
      intro r1012 M1010 h1011
      refine z_istore dL_law__2530 (by decide) (ls' := [.ref 400, .ref 19, .ref 0, .ref 18, .int y4, .int r1005, .int r1012]) rfl ?_
      refine z_aload_n dL_law__2532 rfl ?_
      refine z_callVi (As := []) (st := []) dL_law__2533 zi_L_163 rfl rfl zs_0 rfl rfl (Nat.le_of_ble_eq_true rfl) (by omega) (fun _ _ hx => hx) h1011 ?_
      intro r1015 M1013 h1014
      refine z_iload dL_law__2536 rfl ?_
      refine z_icmp_eq (tgt := 2543) dL_law__2538 (by decide) (fun g1016 => ?_) (fun g1016 => ?_)
      · have h1017 := h1014.1 g1016
        refine z_iload dL_law__2543 rfl ?_
        refine z_if_ne (tgt := 2560) dL_law__2545 (by decide) (fun g1019 => ?_) (fun g1019 => ?_)
        · have h1020 := h1017.1 g1019
          refine z_weak [true, true, true, true, true, false, false] (ls' := [.ref 400, .ref 19, .ref 0, .ref 18, .int y4, zU, zU]) rfl rfl ?_
          exact h1020
        · have h1021 := h1017.2 g1019
          refine z_aload_n dL_law__2548 rfl ?_
          refine z_iconst (v := (0 : Int32)) dL_law__2549 rfl ?_
          refine z_lald dL_law__2550 zs_18 (by unfold vp_in; decide) ?_
          refine z_iload dL_law__2551 rfl ?_
          refine z_i2l (v := ((r1012).toInt64)) dL_law__2553 rfl ?_
          refine z_lcmp dL_law__2554 ?_
          refine z_if_eq (tgt := 2560) dL_law__2555 (by decide) (fun g1022 => ?_) (fun g1022 => ?_)
          · have h1023 := h1021.1 g1022
            refine z_weak [true, true, true, true, true, false, false] (ls' := [.ref 400, .ref 19, .ref 0, .ref 18, .int y4, zU, zU]) rfl rfl ?_
            exact h1023
          · have h1024 := h1021.2 g1022
            refine z_iconst (v := (0 : Int32)) dL_law__2558 rfl ?_
            exact z_iret dL_law__2559 rfl (by decide) (by omega) h1024
      · have h1018 := h1014.2 g1016
        refine z_iconst (v := (0 : Int32)) dL_law__2541 rfl ?_
        exact z_iret dL_law__2542 rfl (by decide) (by omega) h1018
    have h1025 := h996.2 g997
    by_cases g1026 : ((zxs E (y4).toNatClampNeg) &&& (63 : Int32)) = (44 : Int32)
    · have h1027 := h1025.1 g1026
      refine z_tableIn (tgt := 2563) dL_law__40 (by rw [g1026]; decide) (by rw [g1026]; decide) (by rw [g1026]; rfl) (by decide) ?_
      refine z_aload_n dL_law__2563 rfl ?_
      refine z_callVi (As := []) (st := []) dL_law__2564 zi_L_299 rfl rfl zs_19 rfl rfl (Nat.le_of_ble_eq_true rfl) (by omega) (fun _ _ hx => hx) h1027 ?_
      intro r1030 M1028 h1029
      refine z_aload_n dL_law__2567 rfl ?_
      refine z_callVi (As := []) (st := [.int r1030]) dL_law__2568 zi_L_302 rfl rfl zs_0 rfl rfl (Nat.le_of_ble_eq_true rfl) (by omega) (fun _ _ hx => hx) h1029 ?_
      intro r1033 M1031 h1032
      refine z_icmp_eq (tgt := 3090) dL_law__2571 (by decide) (fun g1034 => ?_) (fun g1034 => ?_)
      · have h1035 := h1032.1 g1034
        exact h1035
      · have h1036 := h1032.2 g1034
        refine z_iconst (v := (0 : Int32)) dL_law__2574 rfl ?_
        exact z_iret dL_law__2575 rfl (by decide) (by omega) h1036
    have h1037 := h1025.2 g1026
    by_cases g1038 : ((zxs E (y4).toNatClampNeg) &&& (63 : Int32)) = (45 : Int32)
    · have h1039 := h1037.1 g1038
      refine z_tableIn (tgt := 2576) dL_law__40 (by rw [g1038]; decide) (by rw [g1038]; decide) (by rw [g1038]; rfl) (by decide) ?_
      refine z_aload_n dL_law__2576 rfl ?_
      refine z_callVi (As := []) (st := []) dL_law__2577 zi_L_303 rfl rfl zs_19 rfl rfl (Nat.le_of_ble_eq_true rfl) (by omega) (fun _ _ hx => hx) h1039 ?_
      intro r1042 M1040 h1041
      refine z_aload_n dL_law__2580 rfl ?_
      refine z_callVi (As := []) (st := [.int r1042]) dL_law__2581 zi_L_306 rfl rfl zs_0 rfl rfl (Nat.le_of_ble_eq_true rfl) (by omega) (fun _ _ hx => hx) h1041 ?_
      intro r1045 M1043 h1044
      refine z_icmp_eq (tgt := 3090) dL_law__2584 (by decide) (fun g1046 => ?_) (fun g1046 => ?_)
      · have h1047 := h1044.1 g1046
        exact h1047
      · have h1048 := h1044.2 g1046
        refine z_iconst (v := (0 : Int32)) dL_law__2587 rfl ?_
        exact z_iret dL_law__2588 rfl (by decide) (by omega) h1048
    have h1049 := h1037.2 g1038
    by_cases g1050 : ((zxs E (y4).toNatClampNeg) &&& (63 : Int32)) = (46 : Int32)
    · have h1051 := h1049.1 g1050
      refine z_tableIn (tgt := 2589) dL_law__40 (by rw [g1050]; decide) (by rw [g1050]; decide) (by rw [g1050]; rfl) (by decide) ?_
      refine z_aload_n dL_law__2589 rfl ?_
      refine z_callVi (As := []) (st := []) dL_law__2590 zi_L_307 rfl rfl zs_19 rfl rfl (Nat.le_of_ble_eq_true rfl) (by omega) (fun _ _ hx => hx) h1051 ?_
      intro r1054 M1052 h1053
      refine z_aload_n dL_law__2593 rfl ?_
      refine z_callVi (As := []) (st := [.int r1054]) dL_law__2594 zi_L_310 rfl rfl zs_0 rfl rfl (Nat.le_of_ble_eq_true rfl) (by omega) (fun _ _ hx => hx) h1053 ?_
      intro r1057 M1055 h1056
      refine z_icmp_eq (tgt := 3090) dL_law__2597 (by decide) (fun g1058 => ?_) (fun g1058 => ?_)
      · have h1059 := h1056.1 g1058
        exact h1059
      · have h1060 := h1056.2 g1058
        refine z_iconst (v := (0 : Int32)) dL_law__2600 rfl ?_
        exact z_iret dL_law__2601 rfl (by decide) (by omega) h1060
    have h1061 := h1049.2 g1050
    by_cases g1062 : ((zxs E (y4).toNatClampNeg) &&& (63 : Int32)) = (47 : Int32)
    · have h1063 := h1061.1 g1062
      refine z_tableIn (tgt := 2602) dL_law__40 (by rw [g1062]; decide) (by rw [g1062]; decide) (by rw [g1062]; rfl) (by decide) ?_
      refine z_aload_n dL_law__2602 rfl ?_
      refine z_callVi (As := []) (st := []) dL_law__2603 zi_L_311 rfl rfl zs_19 rfl rfl (Nat.le_of_ble_eq_true rfl) (by omega) (fun _ _ hx => hx) h1063 ?_
      intro r1066 M1064 h1065
      refine z_aload_n dL_law__2606 rfl ?_
      refine z_callVi (As := []) (st := [.int r1066]) dL_law__2607 zi_L_314 rfl rfl zs_0 rfl rfl (Nat.le_of_ble_eq_true rfl) (by omega) (fun _ _ hx => hx) h1065 ?_
      intro r1069 M1067 h1068
      refine z_icmp_eq (tgt := 3090) dL_law__2610 (by decide) (fun g1070 => ?_) (fun g1070 => ?_)
      · have h1071 := h1068.1 g1070
        exact h1071
      · have h1072 := h1068.2 g1070
        refine z_iconst (v := (0 : Int32)) dL_law__2613 rfl ?_
        exact z_iret dL_law__2614 rfl (by decide) (by omega) h1072
    have h1073 := h1061.2 g1062
    by_cases g1074 : ((zxs E (y4).toNatClampNeg) &&& (63 : Int32)) = (48 : Int32)
    · have h1075 := h1073.1 g1074
      refine z_tableIn (tgt := 2615) dL_law__40 (by rw [g1074]; decide) (by rw [g1074]; decide) (by rw [g1074]; rfl) (by decide) ?_
      refine z_aload_n dL_law__2615 rfl ?_
      refine z_aload_n dL_law__2616 rfl ?_
      refine z_iload dL_law__2617 rfl ?_
      refine z_iconst (v := (1 : Int32)) dL_law__2619 rfl ?_
      refine z_iadd dL_law__2620 ?_
      obtain ⟨g1077, h1076⟩ := h1075
      refine z_sld dL_law__2621 g1077 ?_
      refine z_aload_n dL_law__2622 rfl ?_
      refine z_iload dL_law__2623 rfl ?_
      refine z_iconst (v := (2 : Int32)) dL_law__2625 rfl ?_
      refine z_iadd dL_law__2626 ?_
      obtain ⟨g1079, h1078⟩ := h1076
      refine z_sld dL_law__2627 g1079 ?_
      refine z_aload_n dL_law__2628 rfl ?_
      refine z_callWi (As := [.ref 19, .int (zxs E ((y4 + (1 : Int32))).toNatClampNeg), .int (zxs E ((y4 + (2 : Int32))).toNatClampNeg), .ref 18]) (st := []) dL_law__2629 zi_L_315 rfl rfl (Nat.le_of_ble_eq_true rfl) (by omega) h1078 ?_
      intro r1082 M1080 h1081
      refine z_istore dL_law__2632 (by decide) (ls' := [.ref 400, .ref 19, .ref 0, .ref 18, .int y4, .int r1082, zU]) rfl ?_
      refine z_aload_n dL_law__2634 rfl ?_
      refine z_aload_n dL_law__2635 rfl ?_
      refine z_iload dL_law__2636 rfl ?_
      refine z_iconst (v := (1 : Int32)) dL_law__2638 rfl ?_
      refine z_iadd dL_law__2639 ?_
      obtain ⟨g1084, h1083⟩ := h1081
      refine z_sld dL_law__2640 g1084 ?_
      refine z_aload_n dL_law__2641 rfl ?_
      refine z_iload dL_law__2642 rfl ?_
      refine z_iconst (v := (2 : Int32)) dL_law__2644 rfl ?_
      refine z_iadd dL_law__2645 ?_
      obtain ⟨g1086, h1085⟩ := h1083
      refine z_sld dL_law__2646 g1086 ?_
      refine z_callVi (As := [.int (zxs E ((y4 + (1 : Int32))).toNatClampNeg), .int (zxs E ((y4 + (2 : Int32))).toNatClampNeg)]) (st := []) dL_law__2647 zi_L_317 rfl rfl zs_0 rfl rfl (Nat.le_of_ble_eq_true rfl) (by omega) (fun _ _ hx => hx) h1085 ?_
      intro r1089 M1087 h1088
      refine z_istore dL_law__2650 (by decide) (ls' := [.ref 400, .ref 19, .ref 0, .ref 18, .int y4, .int r1082, .int r1089]) rfl ?_
      refine z_aload_n dL_law__2652 rfl ?_
      refine z_callVi (As := []) (st := []) dL_law__2653 zi_L_163 rfl rfl zs_0 rfl rfl (Nat.le_of_ble_eq_true rfl) (by omega) (fun _ _ hx => hx) h1088 ?_
      intro r1092 M1090 h1091
      refine z_iload dL_law__2656 rfl ?_
      refine z_icmp_eq (tgt := 2663) dL_law__2658 (by decide) (fun g1093 => ?_) (fun g1093 => ?_)
      · have h1094 := h1091.1 g1093
        refine z_iload dL_law__2663 rfl ?_
        refine z_if_ne (tgt := 2680) dL_law__2665 (by decide) (fun g1096 => ?_) (fun g1096 => ?_)
        · have h1097 := h1094.1 g1096
          refine z_weak [true, true, true, true, true, false, false] (ls' := [.ref 400, .ref 19, .ref 0, .ref 18, .int y4, zU, zU]) rfl rfl ?_
          exact h1097
        · have h1098 := h1094.2 g1096
          refine z_aload_n dL_law__2668 rfl ?_
          refine z_iconst (v := (0 : Int32)) dL_law__2669 rfl ?_
          refine z_lald dL_law__2670 zs_18 (by unfold vp_in; decide) ?_
          refine z_iload dL_law__2671 rfl ?_
          refine z_i2l (v := ((r1089).toInt64)) dL_law__2673 rfl ?_
          refine z_lcmp dL_law__2674 ?_
          refine z_if_eq (tgt := 2680) dL_law__2675 (by decide) (fun g1099 => ?_) (fun g1099 => ?_)
          · have h1100 := h1098.1 g1099
            refine z_weak [true, true, true, true, true, false, false] (ls' := [.ref 400, .ref 19, .ref 0, .ref 18, .int y4, zU, zU]) rfl rfl ?_
            exact h1100
          · have h1101 := h1098.2 g1099
            refine z_iconst (v := (0 : Int32)) dL_law__2678 rfl ?_
            exact z_iret dL_law__2679 rfl (by decide) (by omega) h1101
      · have h1095 := h1091.2 g1093
        refine z_iconst (v := (0 : Int32)) dL_law__2661 rfl ?_
        exact z_iret dL_law__2662 rfl (by decide) (by omega) h1095
    have h1102 := h1073.2 g1074
    by_cases g1103 : ((zxs E (y4).toNatClampNeg) &&& (63 : Int32)) = (49 : Int32)
    · have h1104 := h1102.1 g1103
      refine z_tableIn (tgt := 2683) dL_law__40 (by rw [g1103]; decide) (by rw [g1103]; decide) (by rw [g1103]; rfl) (by decide) ?_
      refine z_aload_n dL_law__2683 rfl ?_
      refine z_aload_n dL_law__2684 rfl ?_
      refine z_iload dL_law__2685 rfl ?_
      refine z_iconst (v := (1 : Int32)) dL_law__2687 rfl ?_
      refine z_iadd dL_law__2688 ?_
      obtain ⟨g1106, h1105⟩ := h1104
      refine z_sld dL_law__2689 g1106 ?_
      refine z_aload_n dL_law__2690 rfl ?_
      refine z_iload dL_law__2691 rfl ?_
      refine z_iconst (v := (2 : Int32)) dL_law__2693 rfl ?_
      refine z_iadd dL_law__2694 ?_
      obtain ⟨g1108, h1107⟩ := h1105
      refine z_sld dL_law__2695 g1108 ?_
      refine z_if_eq (tgt := 2703) dL_law__2696 (by decide) (fun g1109 => ?_) (fun g1109 => ?_)
      · have h1110 := h1107.1 g1109
        refine z_iconst (v := (0 : Int32)) dL_law__2703 rfl ?_
        exact h1110
      · have h1111 := h1107.2 g1109
        refine z_iconst (v := (1 : Int32)) dL_law__2699 rfl ?_
        refine z_goto (tgt := 2704) dL_law__2700 (by decide) ?_
        exact h1111
    have h1112 := h1102.2 g1103
    by_cases g1113 : ((zxs E (y4).toNatClampNeg) &&& (63 : Int32)) = (50 : Int32)
    · have h1114 := h1112.1 g1113
      refine z_tableIn (tgt := 2767) dL_law__40 (by rw [g1113]; decide) (by rw [g1113]; decide) (by rw [g1113]; rfl) (by decide) ?_
      refine z_aload_n dL_law__2767 rfl ?_
      refine z_aload_n dL_law__2768 rfl ?_
      refine z_iload dL_law__2769 rfl ?_
      refine z_iconst (v := (1 : Int32)) dL_law__2771 rfl ?_
      refine z_iadd dL_law__2772 ?_
      obtain ⟨g1116, h1115⟩ := h1114
      refine z_sld dL_law__2773 g1116 ?_
      refine z_aload_n dL_law__2774 rfl ?_
      refine z_iload dL_law__2775 rfl ?_
      refine z_iconst (v := (2 : Int32)) dL_law__2777 rfl ?_
      refine z_iadd dL_law__2778 ?_
      obtain ⟨g1118, h1117⟩ := h1115
      refine z_sld dL_law__2779 g1118 ?_
      refine z_if_eq (tgt := 2787) dL_law__2780 (by decide) (fun g1119 => ?_) (fun g1119 => ?_)
      · have h1120 := h1117.1 g1119
        refine z_iconst (v := (0 : Int32)) dL_law__2787 rfl ?_
        exact h1120
      · have h1121 := h1117.2 g1119
        refine z_iconst (v := (1 : Int32)) dL_law__2783 rfl ?_
        refine z_goto (tgt := 2788) dL_law__2784 (by decide) ?_
        exact h1121
    have h1122 := h1112.2 g1113
    by_cases g1123 : ((zxs E (y4).toNatClampNeg) &&& (63 : Int32)) = (51 : Int32)
    · have h1124 := h1122.1 g1123
      refine z_tableIn (tgt := 2851) dL_law__40 (by rw [g1123]; decide) (by rw [g1123]; decide) (by rw [g1123]; rfl) (by decide) ?_
      refine z_aload_n dL_law__2851 rfl ?_
      refine z_aload_n dL_law__2852 rfl ?_
      refine z_iload dL_law__2853 rfl ?_
      refine z_iconst (v := (1 : Int32)) dL_law__2855 rfl ?_
      refine z_iadd dL_law__2856 ?_
      obtain ⟨g1126, h1125⟩ := h1124
      refine z_sld dL_law__2857 g1126 ?_
      refine z_aload_n dL_law__2858 rfl ?_
      refine z_iload dL_law__2859 rfl ?_
      refine z_iconst (v := (2 : Int32)) dL_law__2861 rfl ?_
      refine z_iadd dL_law__2862 ?_
      obtain ⟨g1128, h1127⟩ := h1125
      refine z_sld dL_law__2863 g1128 ?_
      refine z_if_eq (tgt := 2871) dL_law__2864 (by decide) (fun g1129 => ?_) (fun g1129 => ?_)
      · have h1130 := h1127.1 g1129
        refine z_iconst (v := (0 : Int32)) dL_law__2871 rfl ?_
        exact h1130
      · have h1131 := h1127.2 g1129
        refine z_iconst (v := (1 : Int32)) dL_law__2867 rfl ?_
        refine z_goto (tgt := 2872) dL_law__2868 (by decide) ?_
        exact h1131
    have h1132 := h1122.2 g1123
    by_cases g1133 : ((zxs E (y4).toNatClampNeg) &&& (63 : Int32)) = (52 : Int32)
    · have h1134 := h1132.1 g1133
      refine z_tableIn (tgt := 2935) dL_law__40 (by rw [g1133]; decide) (by rw [g1133]; decide) (by rw [g1133]; rfl) (by decide) ?_
      refine z_aload_n dL_law__2935 rfl ?_
      refine z_aload_n dL_law__2936 rfl ?_
      refine z_iload dL_law__2937 rfl ?_
      refine z_iconst (v := (1 : Int32)) dL_law__2939 rfl ?_
      refine z_iadd dL_law__2940 ?_
      obtain ⟨g1136, h1135⟩ := h1134
      refine z_sld dL_law__2941 g1136 ?_
      refine z_aload_n dL_law__2942 rfl ?_
      refine z_iload dL_law__2943 rfl ?_
      refine z_iconst (v := (2 : Int32)) dL_law__2945 rfl ?_
      refine z_iadd dL_law__2946 ?_
      obtain ⟨g1138, h1137⟩ := h1135
      refine z_sld dL_law__2947 g1138 ?_
      refine z_aload_n dL_law__2948 rfl ?_
      refine z_callWi (As := [.ref 19, .int (zxs E ((y4 + (1 : Int32))).toNatClampNeg), .int (zxs E ((y4 + (2 : Int32))).toNatClampNeg), .ref 18]) (st := []) dL_law__2949 zi_L_327 rfl rfl (Nat.le_of_ble_eq_true rfl) (by omega) h1137 ?_
      intro r1141 M1139 h1140
      refine z_istore dL_law__2952 (by decide) (ls' := [.ref 400, .ref 19, .ref 0, .ref 18, .int y4, .int r1141, zU]) rfl ?_
      refine z_aload_n dL_law__2954 rfl ?_
      refine z_aload_n dL_law__2955 rfl ?_
      refine z_iload dL_law__2956 rfl ?_
      refine z_iconst (v := (1 : Int32)) dL_law__2958 rfl ?_
      refine z_iadd dL_law__2959 ?_
      obtain ⟨g1143, h1142⟩ := h1140
      refine z_sld dL_law__2960 g1143 ?_
      refine z_aload_n dL_law__2961 rfl ?_
      refine z_iload dL_law__2962 rfl ?_
      refine z_iconst (v := (2 : Int32)) dL_law__2964 rfl ?_
      refine z_iadd dL_law__2965 ?_
      obtain ⟨g1145, h1144⟩ := h1142
      refine z_sld dL_law__2966 g1145 ?_
      refine z_callVi (As := [.int (zxs E ((y4 + (1 : Int32))).toNatClampNeg), .int (zxs E ((y4 + (2 : Int32))).toNatClampNeg)]) (st := []) dL_law__2967 zi_L_329 rfl rfl zs_0 rfl rfl (Nat.le_of_ble_eq_true rfl) (by omega) (fun _ _ hx => hx) h1144 ?_
      intro r1148 M1146 h1147
      refine z_istore dL_law__2970 (by decide) (ls' := [.ref 400, .ref 19, .ref 0, .ref 18, .int y4, .int r1141, .int r1148]) rfl ?_
      refine z_aload_n dL_law__2972 rfl ?_
      refine z_callVi (As := []) (st := []) dL_law__2973 zi_L_163 rfl rfl zs_0 rfl rfl (Nat.le_of_ble_eq_true rfl) (by omega) (fun _ _ hx => hx) h1147 ?_
      intro r1151 M1149 h1150
      refine z_iload dL_law__2976 rfl ?_
      refine z_icmp_eq (tgt := 2983) dL_law__2978 (by decide) (fun g1152 => ?_) (fun g1152 => ?_)
      · have h1153 := h1150.1 g1152
        refine z_iload dL_law__2983 rfl ?_
        refine z_if_ne (tgt := 3000) dL_law__2985 (by decide) (fun g1155 => ?_) (fun g1155 => ?_)
        · have h1156 := h1153.1 g1155
          refine z_weak [true, true, true, true, true, false, false] (ls' := [.ref 400, .ref 19, .ref 0, .ref 18, .int y4, zU, zU]) rfl rfl ?_
          exact h1156
        · have h1157 := h1153.2 g1155
          refine z_aload_n dL_law__2988 rfl ?_
          refine z_iconst (v := (0 : Int32)) dL_law__2989 rfl ?_
          refine z_lald dL_law__2990 zs_18 (by unfold vp_in; decide) ?_
          refine z_iload dL_law__2991 rfl ?_
          refine z_i2l (v := ((r1148).toInt64)) dL_law__2993 rfl ?_
          refine z_lcmp dL_law__2994 ?_
          refine z_if_eq (tgt := 3000) dL_law__2995 (by decide) (fun g1158 => ?_) (fun g1158 => ?_)
          · have h1159 := h1157.1 g1158
            refine z_weak [true, true, true, true, true, false, false] (ls' := [.ref 400, .ref 19, .ref 0, .ref 18, .int y4, zU, zU]) rfl rfl ?_
            exact h1159
          · have h1160 := h1157.2 g1158
            refine z_iconst (v := (0 : Int32)) dL_law__2998 rfl ?_
            exact z_iret dL_law__2999 rfl (by decide) (by omega) h1160
      · have h1154 := h1150.2 g1152
        refine z_iconst (v := (0 : Int32)) dL_law__2981 rfl ?_
        exact z_iret dL_law__2982 rfl (by decide) (by omega) h1154
    have h1161 := h1132.2 g1133
    by_cases g1162 : ((zxs E (y4).toNatClampNeg) &&& (63 : Int32)) = (53 : Int32)
    · have h1163 := h1161.1 g1162
      refine z_tableIn (tgt := 3003) dL_law__40 (by rw [g1162]; decide) (by rw [g1162]; decide) (by rw [g1162]; rfl) (by decide) ?_
      refine z_aload_n dL_law__3003 rfl ?_
      refine z_aload_n dL_law__3004 rfl ?_
      refine z_iload dL_law__3005 rfl ?_
      refine z_iconst (v := (1 : Int32)) dL_law__3007 rfl ?_
      refine z_iadd dL_law__3008 ?_
      obtain ⟨g1165, h1164⟩ := h1163
      refine z_sld dL_law__3009 g1165 ?_
      refine z_callVi (As := [.int (zxs E ((y4 + (1 : Int32))).toNatClampNeg)]) (st := []) dL_law__3010 zi_L_330 rfl rfl zs_19 rfl rfl (Nat.le_of_ble_eq_true rfl) (by omega) (fun _ _ hx => hx) h1164 ?_
      intro r1168 M1166 h1167
      refine z_aload_n dL_law__3013 rfl ?_
      refine z_aload_n dL_law__3014 rfl ?_
      refine z_iload dL_law__3015 rfl ?_
      refine z_iconst (v := (1 : Int32)) dL_law__3017 rfl ?_
      refine z_iadd dL_law__3018 ?_
      obtain ⟨g1170, h1169⟩ := h1167
      refine z_sld dL_law__3019 g1170 ?_
      refine z_callVi (As := [.int (zxs E ((y4 + (1 : Int32))).toNatClampNeg)]) (st := [.int r1168]) dL_law__3020 zi_L_333 rfl rfl zs_0 rfl rfl (Nat.le_of_ble_eq_true rfl) (by omega) (fun _ _ hx => hx) h1169 ?_
      intro r1173 M1171 h1172
      refine z_icmp_eq (tgt := 3090) dL_law__3023 (by decide) (fun g1174 => ?_) (fun g1174 => ?_)
      · have h1175 := h1172.1 g1174
        exact h1175
      · have h1176 := h1172.2 g1174
        refine z_iconst (v := (0 : Int32)) dL_law__3026 rfl ?_
        exact z_iret dL_law__3027 rfl (by decide) (by omega) h1176
    have h1177 := h1161.2 g1162
    by_cases g1178 : ((zxs E (y4).toNatClampNeg) &&& (63 : Int32)) = (54 : Int32)
    · have h1179 := h1177.1 g1178
      refine z_tableIn (tgt := 3028) dL_law__40 (by rw [g1178]; decide) (by rw [g1178]; decide) (by rw [g1178]; rfl) (by decide) ?_
      refine z_aload_n dL_law__3028 rfl ?_
      refine z_callVi (As := []) (st := []) dL_law__3029 zi_L_334 rfl rfl zs_19 rfl rfl (Nat.le_of_ble_eq_true rfl) (by omega) (fun _ _ hx => hx) h1179 ?_
      intro r1182 M1180 h1181
      refine z_aload_n dL_law__3032 rfl ?_
      refine z_callVi (As := []) (st := [.int r1182]) dL_law__3033 zi_L_338 rfl rfl zs_0 rfl rfl (Nat.le_of_ble_eq_true rfl) (by omega) (fun _ _ hx => hx) h1181 ?_
      intro r1185 M1183 h1184
      refine z_icmp_eq (tgt := 3090) dL_law__3036 (by decide) (fun g1186 => ?_) (fun g1186 => ?_)
      · have h1187 := h1184.1 g1186
        exact h1187
      · have h1188 := h1184.2 g1186
        refine z_iconst (v := (0 : Int32)) dL_law__3039 rfl ?_
        exact z_iret dL_law__3040 rfl (by decide) (by omega) h1188
    have h1189 := h1177.2 g1178
    by_cases g1190 : ((zxs E (y4).toNatClampNeg) &&& (63 : Int32)) = (55 : Int32)
    · have h1191 := h1189.1 g1190
      refine z_tableIn (tgt := 3041) dL_law__40 (by rw [g1190]; decide) (by rw [g1190]; decide) (by rw [g1190]; rfl) (by decide) ?_
      refine z_aload_n dL_law__3041 rfl ?_
      refine z_callVv (As := []) (st := []) dL_law__3042 zi_L_339 rfl rfl zs_19 rfl rfl (Nat.le_of_ble_eq_true rfl) (by omega) (fun _ _ hx => hx) h1191 ?_
      intro M1192 h1193
      refine z_aload_n dL_law__3045 rfl ?_
      refine z_callVv (As := []) (st := []) dL_law__3046 zi_L_342 rfl rfl zs_0 rfl rfl (Nat.le_of_ble_eq_true rfl) (by omega) (fun _ _ hx => hx) h1193 ?_
      intro M1194 h1195
      refine z_goto (tgt := 3090) dL_law__3049 (by decide) ?_
      exact h1195
    have h1196 := h1189.2 g1190
    by_cases g1197 : ((zxs E (y4).toNatClampNeg) &&& (63 : Int32)) = (56 : Int32)
    · have h1198 := h1196.1 g1197
      refine z_tableIn (tgt := 3052) dL_law__40 (by rw [g1197]; decide) (by rw [g1197]; decide) (by rw [g1197]; rfl) (by decide) ?_
      refine z_aload_n dL_law__3052 rfl ?_
      refine z_callVi (As := []) (st := []) dL_law__3053 zi_L_343 rfl rfl zs_19 rfl rfl (Nat.le_of_ble_eq_true rfl) (by omega) (fun _ _ hx => hx) h1198 ?_
      intro r1201 M1199 h1200
      refine z_aload_n dL_law__3056 rfl ?_
      refine z_callVi (As := []) (st := [.int r1201]) dL_law__3057 zi_L_346 rfl rfl zs_0 rfl rfl (Nat.le_of_ble_eq_true rfl) (by omega) (fun _ _ hx => hx) h1200 ?_
      intro r1204 M1202 h1203
      refine z_icmp_eq (tgt := 3090) dL_law__3060 (by decide) (fun g1205 => ?_) (fun g1205 => ?_)
      · have h1206 := h1203.1 g1205
        exact h1206
      · have h1207 := h1203.2 g1205
        refine z_iconst (v := (0 : Int32)) dL_law__3063 rfl ?_
        exact z_iret dL_law__3064 rfl (by decide) (by omega) h1207
    have h1208 := h1196.2 g1197
    by_cases g1209 : ((zxs E (y4).toNatClampNeg) &&& (63 : Int32)) = (57 : Int32)
    · have h1210 := h1208.1 g1209
      refine z_tableIn (tgt := 3065) dL_law__40 (by rw [g1209]; decide) (by rw [g1209]; decide) (by rw [g1209]; rfl) (by decide) ?_
      refine z_aload_n dL_law__3065 rfl ?_
      refine z_aload_n dL_law__3066 rfl ?_
      refine z_iload dL_law__3067 rfl ?_
      refine z_iconst (v := (1 : Int32)) dL_law__3069 rfl ?_
      refine z_iadd dL_law__3070 ?_
      obtain ⟨g1212, h1211⟩ := h1210
      refine z_sld dL_law__3071 g1212 ?_
      refine z_callVi (As := [.int (zxs E ((y4 + (1 : Int32))).toNatClampNeg)]) (st := []) dL_law__3072 zi_L_347 rfl rfl zs_19 rfl rfl (Nat.le_of_ble_eq_true rfl) (by omega) (fun _ _ hx => hx) h1211 ?_
      intro r1215 M1213 h1214
      refine z_aload_n dL_law__3075 rfl ?_
      refine z_aload_n dL_law__3076 rfl ?_
      refine z_iload dL_law__3077 rfl ?_
      refine z_iconst (v := (1 : Int32)) dL_law__3079 rfl ?_
      refine z_iadd dL_law__3080 ?_
      obtain ⟨g1217, h1216⟩ := h1214
      refine z_sld dL_law__3081 g1217 ?_
      refine z_callVi (As := [.int (zxs E ((y4 + (1 : Int32))).toNatClampNeg)]) (st := [.int r1215]) dL_law__3082 zi_L_350 rfl rfl zs_0 rfl rfl (Nat.le_of_ble_eq_true rfl) (by omega) (fun _ _ hx => hx) h1216 ?_
      intro r1220 M1218 h1219
      refine z_icmp_eq (tgt := 3090) dL_law__3085 (by decide) (fun g1221 => ?_) (fun g1221 => ?_)
      · have h1222 := h1219.1 g1221
        exact h1222
      · have h1223 := h1219.2 g1221
        refine z_iconst (v := (0 : Int32)) dL_law__3088 rfl ?_
        exact z_iret dL_law__3089 rfl (by decide) (by omega) h1223
    have h1224 := h1208.2 g1209
    refine z_tableOut (tgt := 3090) dL_law__40 (by have := zne_toInt g6 (by decide : ((0 : Int32)).toInt = 0); have := zne_toInt g38 (by decide : ((1 : Int32)).toInt = 1); have := zne_toInt g54 (by decide : ((2 : Int32)).toInt = 2); have := zne_toInt g75 (by decide : ((3 : Int32)).toInt = 3); have := zne_toInt g96 (by decide : ((4 : Int32)).toInt = 4); have := zne_toInt g108 (by decide : ((5 : Int32)).toInt = 5); have := zne_toInt g137 (by decide : ((6 : Int32)).toInt = 6); have := zne_toInt g166 (by decide : ((7 : Int32)).toInt = 7); have := zne_toInt g191 (by decide : ((8 : Int32)).toInt = 8); have := zne_toInt g216 (by decide : ((9 : Int32)).toInt = 9); have := zne_toInt g241 (by decide : ((10 : Int32)).toInt = 10); have := zne_toInt g266 (by decide : ((11 : Int32)).toInt = 11); have := zne_toInt g291 (by decide : ((12 : Int32)).toInt = 12); have := zne_toInt g320 (by decide : ((13 : Int32)).toInt = 13); have := zne_toInt g349 (by decide : ((14 : Int32)).toInt = 14); have := zne_toInt g374 (by decide : ((15 : Int32)).toInt = 15); have := zne_toInt g384 (by decide : ((16 : Int32)).toInt = 16); have := zne_toInt g413 (by decide : ((17 : Int32)).toInt = 17); have := zne_toInt g438 (by decide : ((18 : Int32)).toInt = 18); have := zne_toInt g467 (by decide : ((19 : Int32)).toInt = 19); have := zne_toInt g496 (by decide : ((20 : Int32)).toInt = 20); have := zne_toInt g521 (by decide : ((21 : Int32)).toInt = 21); have := zne_toInt g550 (by decide : ((22 : Int32)).toInt = 22); have := zne_toInt g562 (by decide : ((23 : Int32)).toInt = 23); have := zne_toInt g574 (by decide : ((24 : Int32)).toInt = 24); have := zne_toInt g586 (by decide : ((25 : Int32)).toInt = 25); have := zne_toInt g607 (by decide : ((26 : Int32)).toInt = 26); have := zne_toInt g628 (by decide : ((27 : Int32)).toInt = 27); have := zne_toInt g649 (by decide : ((28 : Int32)).toInt = 28); have := zne_toInt g670 (by decide : ((29 : Int32)).toInt = 29); have := zne_toInt g682 (by decide : ((30 : Int32)).toInt = 30); have := zne_toInt g707 (by decide : ((31 : Int32)).toInt = 31); have := zne_toInt g732 (by decide : ((32 : Int32)).toInt = 32); have := zne_toInt g757 (by decide : ((33 : Int32)).toInt = 33); have := zne_toInt g786 (by decide : ((34 : Int32)).toInt = 34); have := zne_toInt g807 (by decide : ((35 : Int32)).toInt = 35); have := zne_toInt g832 (by decide : ((36 : Int32)).toInt = 36); have := zne_toInt g861 (by decide : ((37 : Int32)).toInt = 37); have := zne_toInt g890 (by decide : ((38 : Int32)).toInt = 38); have := zne_toInt g902 (by decide : ((39 : Int32)).toInt = 39); have := zne_toInt g927 (by decide : ((40 : Int32)).toInt = 40); have := zne_toInt g956 (by decide : ((41 : Int32)).toInt = 41); have := zne_toInt g968 (by decide : ((42 : Int32)).toInt = 42); have := zne_toInt g997 (by decide : ((43 : Int32)).toInt = 43); have := zne_toInt g1026 (by decide : ((44 : Int32)).toInt = 44); have := zne_toInt g1038 (by decide : ((45 : Int32)).toInt = 45); have := zne_toInt g1050 (by decide : ((46 : Int32)).toInt = 46); have := zne_toInt g1062 (by decide : ((47 : Int32)).toInt = 47); have := zne_toInt g1074 (by decide : ((48 : Int32)).toInt = 48); have := zne_toInt g1103 (by decide : ((49 : Int32)).toInt = 49); have := zne_toInt g1113 (by decide : ((50 : Int32)).toInt = 50); have := zne_toInt g1123 (by decide : ((51 : Int32)).toInt = 51); have := zne_toInt g1133 (by decide : ((52 : Int32)).toInt = 52); have := zne_toInt g1162 (by decide : ((53 : Int32)).toInt = 53); have := zne_toInt g1178 (by decide : ((54 : Int32)).toInt = 54); have := zne_toInt g1190 (by decide : ((55 : Int32)).toInt = 55); have := zne_toInt g1197 (by decide : ((56 : Int32)).toInt = 56); have := zne_toInt g1209 (by decide : ((57 : Int32)).toInt = 57); omega) (by decide) ?_
    exact h1224
set_option maxRecDepth 20000 in
set_option maxHeartbeats 40000000 in
theorem t_L_law__3090 {E : zEv} {D K k : Nat} {post : Int32 → zM → Prop} {px : String → zM → Prop} {M : zM} {y4 : Int32} (hk : k + 4 ≤ K) (h : w_L_law__23 E D K post px k (y4 + (6 : Int32)) M) : w_L_law__3090 E D K post px k y4 M := by
  show Z E jL_law_ (D + 1) K (zQi post px) 3090 k [.ref 400, .ref 19, .ref 0, .ref 18, .int y4, zU, zU] [] M
  refine z_iinc dL_law__3090 rfl (by decide) (ls' := [.ref 400, .ref 19, .ref 0, .ref 18, .int (y4 + (6 : Int32)), zU, zU]) rfl ?_
  refine z_goto (tgt := 23) dL_law__3093 (by decide) ?_
  exact h
set_option maxRecDepth 20000 in
set_option maxHeartbeats 40000000 in
theorem t_L_law__427 {E : zEv} {D K k : Nat} {post : Int32 → zM → Prop} {px : String → zM → Prop} {M : zM} {y4 : Int32} (hk : k + 4 ≤ K) (h : w_L_law__3090 E D K post px k y4 M) : w_L_law__427 E D K post px k y4 M := by
  show Z E jL_law_ (D + 1) K (zQi post px) 427 k [.ref 400, .ref 19, .ref 0, .ref 18, .int y4, zU, zU] [] M
  refine z_goto (tgt := 3090) dL_law__427 (by decide) ?_
  exact h
set_option maxRecDepth 20000 in
set_option maxHeartbeats 40000000 in
theorem t_L_law__471 {E : zEv} {D K k : Nat} {post : Int32 → zM → Prop} {px : String → zM → Prop} {M : zM} {y4 : Int32} (hk : k + 4 ≤ K) (h : w_L_law__3090 E D K post px k y4 M) : w_L_law__471 E D K post px k y4 M := by
  show Z E jL_law_ (D + 1) K (zQi post px) 471 k [.ref 400, .ref 19, .ref 0, .ref 18, .int y4, zU, zU] [] M
  refine z_goto (tgt := 3090) dL_law__471 (by decide) ?_
  exact h
set_option maxRecDepth 20000 in
set_option maxHeartbeats 40000000 in
theorem t_L_law__552 {E : zEv} {D K k : Nat} {post : Int32 → zM → Prop} {px : String → zM → Prop} {M : zM} {y4 : Int32} (hk : k + 4 ≤ K) (h : w_L_law__3090 E D K post px k y4 M) : w_L_law__552 E D K post px k y4 M := by
  show Z E jL_law_ (D + 1) K (zQi post px) 552 k [.ref 400, .ref 19, .ref 0, .ref 18, .int y4, zU, zU] [] M
  refine z_goto (tgt := 3090) dL_law__552 (by decide) ?_
  exact h
set_option maxRecDepth 20000 in
set_option maxHeartbeats 40000000 in
theorem t_L_law__620 {E : zEv} {D K k : Nat} {post : Int32 → zM → Prop} {px : String → zM → Prop} {M : zM} {y4 : Int32} (hk : k + 4 ≤ K) (h : w_L_law__3090 E D K post px k y4 M) : w_L_law__620 E D K post px k y4 M := by
  show Z E jL_law_ (D + 1) K (zQi post px) 620 k [.ref 400, .ref 19, .ref 0, .ref 18, .int y4, zU, zU] [] M
  refine z_goto (tgt := 3090) dL_law__620 (by decide) ?_
  exact h
set_option maxRecDepth 20000 in
set_option maxHeartbeats 40000000 in
theorem t_L_law__676 {E : zEv} {D K k : Nat} {post : Int32 → zM → Prop} {px : String → zM → Prop} {M : zM} {y4 : Int32} (hk : k + 4 ≤ K) (h : w_L_law__3090 E D K post px k y4 M) : w_L_law__676 E D K post px k y4 M := by
  show Z E jL_law_ (D + 1) K (zQi post px) 676 k [.ref 400, .ref 19, .ref 0, .ref 18, .int y4, zU, zU] [] M
  refine z_goto (tgt := 3090) dL_law__676 (by decide) ?_
  exact h
set_option maxRecDepth 20000 in
set_option maxHeartbeats 40000000 in
theorem t_L_law__732 {E : zEv} {D K k : Nat} {post : Int32 → zM → Prop} {px : String → zM → Prop} {M : zM} {y4 : Int32} (hk : k + 4 ≤ K) (h : w_L_law__3090 E D K post px k y4 M) : w_L_law__732 E D K post px k y4 M := by
  show Z E jL_law_ (D + 1) K (zQi post px) 732 k [.ref 400, .ref 19, .ref 0, .ref 18, .int y4, zU, zU] [] M
  refine z_goto (tgt := 3090) dL_law__732 (by decide) ?_
  exact h
set_option maxRecDepth 20000 in
set_option maxHeartbeats 40000000 in
theorem t_L_law__788 {E : zEv} {D K k : Nat} {post : Int32 → zM → Prop} {px : String → zM → Prop} {M : zM} {y4 : Int32} (hk : k + 4 ≤ K) (h : w_L_law__3090 E D K post px k y4 M) : w_L_law__788 E D K post px k y4 M := by
  show Z E jL_law_ (D + 1) K (zQi post px) 788 k [.ref 400, .ref 19, .ref 0, .ref 18, .int y4, zU, zU] [] M
  refine z_goto (tgt := 3090) dL_law__788 (by decide) ?_
  exact h
set_option maxRecDepth 20000 in
set_option maxHeartbeats 40000000 in
theorem t_L_law__844 {E : zEv} {D K k : Nat} {post : Int32 → zM → Prop} {px : String → zM → Prop} {M : zM} {y4 : Int32} (hk : k + 4 ≤ K) (h : w_L_law__3090 E D K post px k y4 M) : w_L_law__844 E D K post px k y4 M := by
  show Z E jL_law_ (D + 1) K (zQi post px) 844 k [.ref 400, .ref 19, .ref 0, .ref 18, .int y4, zU, zU] [] M
  refine z_goto (tgt := 3090) dL_law__844 (by decide) ?_
  exact h
set_option maxRecDepth 20000 in
set_option maxHeartbeats 40000000 in
theorem t_L_law__900 {E : zEv} {D K k : Nat} {post : Int32 → zM → Prop} {px : String → zM → Prop} {M : zM} {y4 : Int32} (hk : k + 4 ≤ K) (h : w_L_law__3090 E D K post px k y4 M) : w_L_law__900 E D K post px k y4 M := by
  show Z E jL_law_ (D + 1) K (zQi post px) 900 k [.ref 400, .ref 19, .ref 0, .ref 18, .int y4, zU, zU] [] M
  refine z_goto (tgt := 3090) dL_law__900 (by decide) ?_
  exact h
set_option maxRecDepth 20000 in
set_option maxHeartbeats 40000000 in
theorem t_L_law__968 {E : zEv} {D K k : Nat} {post : Int32 → zM → Prop} {px : String → zM → Prop} {M : zM} {y4 : Int32} (hk : k + 4 ≤ K) (h : w_L_law__3090 E D K post px k y4 M) : w_L_law__968 E D K post px k y4 M := by
  show Z E jL_law_ (D + 1) K (zQi post px) 968 k [.ref 400, .ref 19, .ref 0, .ref 18, .int y4, zU, zU] [] M
  refine z_goto (tgt := 3090) dL_law__968 (by decide) ?_
  exact h
set_option maxRecDepth 20000 in
set_option maxHeartbeats 40000000 in
theorem t_L_law__1036 {E : zEv} {D K k : Nat} {post : Int32 → zM → Prop} {px : String → zM → Prop} {M : zM} {y4 : Int32} (hk : k + 4 ≤ K) (h : w_L_law__3090 E D K post px k y4 M) : w_L_law__1036 E D K post px k y4 M := by
  show Z E jL_law_ (D + 1) K (zQi post px) 1036 k [.ref 400, .ref 19, .ref 0, .ref 18, .int y4, zU, zU] [] M
  refine z_goto (tgt := 3090) dL_law__1036 (by decide) ?_
  exact h
set_option maxRecDepth 20000 in
set_option maxHeartbeats 40000000 in
theorem t_L_law__1092 {E : zEv} {D K k : Nat} {post : Int32 → zM → Prop} {px : String → zM → Prop} {M : zM} {y4 : Int32} (hk : k + 4 ≤ K) (h : w_L_law__3090 E D K post px k y4 M) : w_L_law__1092 E D K post px k y4 M := by
  show Z E jL_law_ (D + 1) K (zQi post px) 1092 k [.ref 400, .ref 19, .ref 0, .ref 18, .int y4, zU, zU] [] M
  refine z_goto (tgt := 3090) dL_law__1092 (by decide) ?_
  exact h
set_option maxRecDepth 20000 in
set_option maxHeartbeats 40000000 in
theorem t_L_law__1116 {E : zEv} {D K k : Nat} {post : Int32 → zM → Prop} {px : String → zM → Prop} {M : zM} {y4 : Int32} {s0 : Int32} {s1 : Int32} (hk : k + 4 ≤ K) (h : zCWi E jL_tell D 1 [.ref 19, .int s1, .int s0, .ref 18] M (fun r3 M1 => vp_in (y4 + (1 : Int32)) (zLn E) ∧ vp_in (y4 + (2 : Int32)) (zLn E) ∧ (((zxs E ((y4 + (2 : Int32))).toNatClampNeg) = 0 → w_L_law__1143 E D K post px (k + 1) y4 r3 (0 : Int32) (zxs E ((y4 + (1 : Int32))).toNatClampNeg) M1) ∧ (¬ (zxs E ((y4 + (2 : Int32))).toNatClampNeg) = 0 → w_L_law__1143 E D K post px (k + 1) y4 r3 (1 : Int32) (zxs E ((y4 + (1 : Int32))).toNatClampNeg) M1)))) : w_L_law__1116 E D K post px k y4 s0 s1 M := by
  show Z E jL_law_ (D + 1) K (zQi post px) 1116 k [.ref 400, .ref 19, .ref 0, .ref 18, .int y4, zU, zU] [.int s0, .int s1, .ref 19] M
  refine z_aload_n dL_law__1116 rfl ?_
  refine z_callWi (As := [.ref 19, .int s1, .int s0, .ref 18]) (st := []) dL_law__1117 zi_L_205 rfl rfl (Nat.le_of_ble_eq_true rfl) (by omega) h ?_
  intro r3 M1 h2
  refine z_istore dL_law__1120 (by decide) (ls' := [.ref 400, .ref 19, .ref 0, .ref 18, .int y4, .int r3, zU]) rfl ?_
  refine z_aload_n dL_law__1122 rfl ?_
  refine z_aload_n dL_law__1123 rfl ?_
  refine z_iload dL_law__1124 rfl ?_
  refine z_iconst (v := (1 : Int32)) dL_law__1126 rfl ?_
  refine z_iadd dL_law__1127 ?_
  obtain ⟨g5, h4⟩ := h2
  refine z_sld dL_law__1128 g5 ?_
  refine z_aload_n dL_law__1129 rfl ?_
  refine z_iload dL_law__1130 rfl ?_
  refine z_iconst (v := (2 : Int32)) dL_law__1132 rfl ?_
  refine z_iadd dL_law__1133 ?_
  obtain ⟨g7, h6⟩ := h4
  refine z_sld dL_law__1134 g7 ?_
  refine z_if_eq (tgt := 1142) dL_law__1135 (by decide) (fun g8 => ?_) (fun g8 => ?_)
  · have h9 := h6.1 g8
    refine z_iconst (v := (0 : Int32)) dL_law__1142 rfl ?_
    exact h9
  · have h10 := h6.2 g8
    refine z_iconst (v := (1 : Int32)) dL_law__1138 rfl ?_
    refine z_goto (tgt := 1143) dL_law__1139 (by decide) ?_
    exact h10
set_option maxRecDepth 20000 in
set_option maxHeartbeats 40000000 in
theorem t_L_law__1251 {E : zEv} {D K k : Nat} {post : Int32 → zM → Prop} {px : String → zM → Prop} {M : zM} {y4 : Int32} (hk : k + 4 ≤ K) (h : w_L_law__3090 E D K post px k y4 M) : w_L_law__1251 E D K post px k y4 M := by
  show Z E jL_law_ (D + 1) K (zQi post px) 1251 k [.ref 400, .ref 19, .ref 0, .ref 18, .int y4, zU, zU] [] M
  refine z_goto (tgt := 3090) dL_law__1251 (by decide) ?_
  exact h
set_option maxRecDepth 20000 in
set_option maxHeartbeats 40000000 in
theorem t_L_law__1307 {E : zEv} {D K k : Nat} {post : Int32 → zM → Prop} {px : String → zM → Prop} {M : zM} {y4 : Int32} (hk : k + 4 ≤ K) (h : w_L_law__3090 E D K post px k y4 M) : w_L_law__1307 E D K post px k y4 M := by
  show Z E jL_law_ (D + 1) K (zQi post px) 1307 k [.ref 400, .ref 19, .ref 0, .ref 18, .int y4, zU, zU] [] M
  refine z_goto (tgt := 3090) dL_law__1307 (by decide) ?_
  exact h
set_option maxRecDepth 20000 in
set_option maxHeartbeats 40000000 in
theorem t_L_law__1375 {E : zEv} {D K k : Nat} {post : Int32 → zM → Prop} {px : String → zM → Prop} {M : zM} {y4 : Int32} (hk : k + 4 ≤ K) (h : w_L_law__3090 E D K post px k y4 M) : w_L_law__1375 E D K post px k y4 M := by
  show Z E jL_law_ (D + 1) K (zQi post px) 1375 k [.ref 400, .ref 19, .ref 0, .ref 18, .int y4, zU, zU] [] M
  refine z_goto (tgt := 3090) dL_law__1375 (by decide) ?_
  exact h
set_option maxRecDepth 20000 in
set_option maxHeartbeats 40000000 in
theorem t_L_law__1443 {E : zEv} {D K k : Nat} {post : Int32 → zM → Prop} {px : String → zM → Prop} {M : zM} {y4 : Int32} (hk : k + 4 ≤ K) (h : w_L_law__3090 E D K post px k y4 M) : w_L_law__1443 E D K post px k y4 M := by
  show Z E jL_law_ (D + 1) K (zQi post px) 1443 k [.ref 400, .ref 19, .ref 0, .ref 18, .int y4, zU, zU] [] M
  refine z_goto (tgt := 3090) dL_law__1443 (by decide) ?_
  exact h
set_option maxRecDepth 20000 in
set_option maxHeartbeats 40000000 in
theorem t_L_law__1499 {E : zEv} {D K k : Nat} {post : Int32 → zM → Prop} {px : String → zM → Prop} {M : zM} {y4 : Int32} (hk : k + 4 ≤ K) (h : w_L_law__3090 E D K post px k y4 M) : w_L_law__1499 E D K post px k y4 M := by
  show Z E jL_law_ (D + 1) K (zQi post px) 1499 k [.ref 400, .ref 19, .ref 0, .ref 18, .int y4, zU, zU] [] M
  refine z_goto (tgt := 3090) dL_law__1499 (by decide) ?_
  exact h
set_option maxRecDepth 20000 in
set_option maxHeartbeats 40000000 in
theorem t_L_law__1567 {E : zEv} {D K k : Nat} {post : Int32 → zM → Prop} {px : String → zM → Prop} {M : zM} {y4 : Int32} (hk : k + 4 ≤ K) (h : w_L_law__3090 E D K post px k y4 M) : w_L_law__1567 E D K post px k y4 M := by
  show Z E jL_law_ (D + 1) K (zQi post px) 1567 k [.ref 400, .ref 19, .ref 0, .ref 18, .int y4, zU, zU] [] M
  refine z_goto (tgt := 3090) dL_law__1567 (by decide) ?_
  exact h
set_option maxRecDepth 20000 in
set_option maxHeartbeats 40000000 in
theorem t_L_law__1650 {E : zEv} {D K k : Nat} {post : Int32 → zM → Prop} {px : String → zM → Prop} {M : zM} {y4 : Int32} (hk : k + 4 ≤ K) (h : w_L_law__3090 E D K post px k y4 M) : w_L_law__1650 E D K post px k y4 M := by
  show Z E jL_law_ (D + 1) K (zQi post px) 1650 k [.ref 400, .ref 19, .ref 0, .ref 18, .int y4, zU, zU] [] M
  refine z_goto (tgt := 3090) dL_law__1650 (by decide) ?_
  exact h
set_option maxRecDepth 20000 in
set_option maxHeartbeats 40000000 in
theorem t_L_law__1694 {E : zEv} {D K k : Nat} {post : Int32 → zM → Prop} {px : String → zM → Prop} {M : zM} {y4 : Int32} (hk : k + 4 ≤ K) (h : w_L_law__3090 E D K post px k y4 M) : w_L_law__1694 E D K post px k y4 M := by
  show Z E jL_law_ (D + 1) K (zQi post px) 1694 k [.ref 400, .ref 19, .ref 0, .ref 18, .int y4, zU, zU] [] M
  refine z_goto (tgt := 3090) dL_law__1694 (by decide) ?_
  exact h
set_option maxRecDepth 20000 in
set_option maxHeartbeats 40000000 in
theorem t_L_law__1738 {E : zEv} {D K k : Nat} {post : Int32 → zM → Prop} {px : String → zM → Prop} {M : zM} {y4 : Int32} (hk : k + 4 ≤ K) (h : w_L_law__3090 E D K post px k y4 M) : w_L_law__1738 E D K post px k y4 M := by
  show Z E jL_law_ (D + 1) K (zQi post px) 1738 k [.ref 400, .ref 19, .ref 0, .ref 18, .int y4, zU, zU] [] M
  refine z_goto (tgt := 3090) dL_law__1738 (by decide) ?_
  exact h
set_option maxRecDepth 20000 in
set_option maxHeartbeats 40000000 in
theorem t_L_law__1782 {E : zEv} {D K k : Nat} {post : Int32 → zM → Prop} {px : String → zM → Prop} {M : zM} {y4 : Int32} (hk : k + 4 ≤ K) (h : w_L_law__3090 E D K post px k y4 M) : w_L_law__1782 E D K post px k y4 M := by
  show Z E jL_law_ (D + 1) K (zQi post px) 1782 k [.ref 400, .ref 19, .ref 0, .ref 18, .int y4, zU, zU] [] M
  refine z_goto (tgt := 3090) dL_law__1782 (by decide) ?_
  exact h
set_option maxRecDepth 20000 in
set_option maxHeartbeats 40000000 in
theorem t_L_law__1851 {E : zEv} {D K k : Nat} {post : Int32 → zM → Prop} {px : String → zM → Prop} {M : zM} {y4 : Int32} (hk : k + 4 ≤ K) (h : w_L_law__3090 E D K post px k y4 M) : w_L_law__1851 E D K post px k y4 M := by
  show Z E jL_law_ (D + 1) K (zQi post px) 1851 k [.ref 400, .ref 19, .ref 0, .ref 18, .int y4, zU, zU] [] M
  refine z_goto (tgt := 3090) dL_law__1851 (by decide) ?_
  exact h
set_option maxRecDepth 20000 in
set_option maxHeartbeats 40000000 in
theorem t_L_law__1907 {E : zEv} {D K k : Nat} {post : Int32 → zM → Prop} {px : String → zM → Prop} {M : zM} {y4 : Int32} (hk : k + 4 ≤ K) (h : w_L_law__3090 E D K post px k y4 M) : w_L_law__1907 E D K post px k y4 M := by
  show Z E jL_law_ (D + 1) K (zQi post px) 1907 k [.ref 400, .ref 19, .ref 0, .ref 18, .int y4, zU, zU] [] M
  refine z_goto (tgt := 3090) dL_law__1907 (by decide) ?_
  exact h
set_option maxRecDepth 20000 in
set_option maxHeartbeats 40000000 in
theorem t_L_law__1963 {E : zEv} {D K k : Nat} {post : Int32 → zM → Prop} {px : String → zM → Prop} {M : zM} {y4 : Int32} (hk : k + 4 ≤ K) (h : w_L_law__3090 E D K post px k y4 M) : w_L_law__1963 E D K post px k y4 M := by
  show Z E jL_law_ (D + 1) K (zQi post px) 1963 k [.ref 400, .ref 19, .ref 0, .ref 18, .int y4, zU, zU] [] M
  refine z_goto (tgt := 3090) dL_law__1963 (by decide) ?_
  exact h
set_option maxRecDepth 20000 in
set_option maxHeartbeats 40000000 in
theorem t_L_law__2031 {E : zEv} {D K k : Nat} {post : Int32 → zM → Prop} {px : String → zM → Prop} {M : zM} {y4 : Int32} (hk : k + 4 ≤ K) (h : w_L_law__3090 E D K post px k y4 M) : w_L_law__2031 E D K post px k y4 M := by
  show Z E jL_law_ (D + 1) K (zQi post px) 2031 k [.ref 400, .ref 19, .ref 0, .ref 18, .int y4, zU, zU] [] M
  refine z_goto (tgt := 3090) dL_law__2031 (by decide) ?_
  exact h
set_option maxRecDepth 20000 in
set_option maxHeartbeats 40000000 in
theorem t_L_law__2075 {E : zEv} {D K k : Nat} {post : Int32 → zM → Prop} {px : String → zM → Prop} {M : zM} {y4 : Int32} (hk : k + 4 ≤ K) (h : w_L_law__3090 E D K post px k y4 M) : w_L_law__2075 E D K post px k y4 M := by
  show Z E jL_law_ (D + 1) K (zQi post px) 2075 k [.ref 400, .ref 19, .ref 0, .ref 18, .int y4, zU, zU] [] M
  refine z_goto (tgt := 3090) dL_law__2075 (by decide) ?_
  exact h
set_option maxRecDepth 20000 in
set_option maxHeartbeats 40000000 in
theorem t_L_law__2131 {E : zEv} {D K k : Nat} {post : Int32 → zM → Prop} {px : String → zM → Prop} {M : zM} {y4 : Int32} (hk : k + 4 ≤ K) (h : w_L_law__3090 E D K post px k y4 M) : w_L_law__2131 E D K post px k y4 M := by
  show Z E jL_law_ (D + 1) K (zQi post px) 2131 k [.ref 400, .ref 19, .ref 0, .ref 18, .int y4, zU, zU] [] M
  refine z_goto (tgt := 3090) dL_law__2131 (by decide) ?_
  exact h
set_option maxRecDepth 20000 in
set_option maxHeartbeats 40000000 in
theorem t_L_law__2199 {E : zEv} {D K k : Nat} {post : Int32 → zM → Prop} {px : String → zM → Prop} {M : zM} {y4 : Int32} (hk : k + 4 ≤ K) (h : w_L_law__3090 E D K post px k y4 M) : w_L_law__2199 E D K post px k y4 M := by
  show Z E jL_law_ (D + 1) K (zQi post px) 2199 k [.ref 400, .ref 19, .ref 0, .ref 18, .int y4, zU, zU] [] M
  refine z_goto (tgt := 3090) dL_law__2199 (by decide) ?_
  exact h
set_option maxRecDepth 20000 in
set_option maxHeartbeats 40000000 in
theorem t_L_law__2274 {E : zEv} {D K k : Nat} {post : Int32 → zM → Prop} {px : String → zM → Prop} {M : zM} {y4 : Int32} (hk : k + 4 ≤ K) (h : w_L_law__3090 E D K post px k y4 M) : w_L_law__2274 E D K post px k y4 M := by
  show Z E jL_law_ (D + 1) K (zQi post px) 2274 k [.ref 400, .ref 19, .ref 0, .ref 18, .int y4, zU, zU] [] M
  refine z_goto (tgt := 3090) dL_law__2274 (by decide) ?_
  exact h
set_option maxRecDepth 20000 in
set_option maxHeartbeats 40000000 in
theorem t_L_law__2268 {E : zEv} {D K k : Nat} {post : Int32 → zM → Prop} {px : String → zM → Prop} {M : zM} {y4 : Int32} {s0 : Int64} {s1 : Int64} (hk : k + 4 ≤ K) (h : (((lg_cmp s1 s0) = 0 → w_L_law__2274 E D K post px k y4 M) ∧ (¬ (lg_cmp s1 s0) = 0 → post (0 : Int32) M))) : w_L_law__2268 E D K post px k y4 s0 s1 M := by
  show Z E jL_law_ (D + 1) K (zQi post px) 2268 k [.ref 400, .ref 19, .ref 0, .ref 18, .int y4, zU, zU] [.long s0, .long s1] M
  refine z_lcmp dL_law__2268 ?_
  refine z_if_eq (tgt := 2274) dL_law__2269 (by decide) (fun g1 => ?_) (fun g1 => ?_)
  · have h2 := h.1 g1
    exact h2
  · have h3 := h.2 g1
    refine z_iconst (v := (0 : Int32)) dL_law__2272 rfl ?_
    exact z_iret dL_law__2273 rfl (by decide) (by omega) h3
set_option maxRecDepth 20000 in
set_option maxHeartbeats 40000000 in
theorem t_L_law__2343 {E : zEv} {D K k : Nat} {post : Int32 → zM → Prop} {px : String → zM → Prop} {M : zM} {y4 : Int32} (hk : k + 4 ≤ K) (h : w_L_law__3090 E D K post px k y4 M) : w_L_law__2343 E D K post px k y4 M := by
  show Z E jL_law_ (D + 1) K (zQi post px) 2343 k [.ref 400, .ref 19, .ref 0, .ref 18, .int y4, zU, zU] [] M
  refine z_goto (tgt := 3090) dL_law__2343 (by decide) ?_
  exact h
set_option maxRecDepth 20000 in
set_option maxHeartbeats 40000000 in
theorem t_L_law__2411 {E : zEv} {D K k : Nat} {post : Int32 → zM → Prop} {px : String → zM → Prop} {M : zM} {y4 : Int32} (hk : k + 4 ≤ K) (h : w_L_law__3090 E D K post px k y4 M) : w_L_law__2411 E D K post px k y4 M := by
  show Z E jL_law_ (D + 1) K (zQi post px) 2411 k [.ref 400, .ref 19, .ref 0, .ref 18, .int y4, zU, zU] [] M
  refine z_goto (tgt := 3090) dL_law__2411 (by decide) ?_
  exact h
set_option maxRecDepth 20000 in
set_option maxHeartbeats 40000000 in
theorem t_L_law__2492 {E : zEv} {D K k : Nat} {post : Int32 → zM → Prop} {px : String → zM → Prop} {M : zM} {y4 : Int32} (hk : k + 4 ≤ K) (h : w_L_law__3090 E D K post px k y4 M) : w_L_law__2492 E D K post px k y4 M := by
  show Z E jL_law_ (D + 1) K (zQi post px) 2492 k [.ref 400, .ref 19, .ref 0, .ref 18, .int y4, zU, zU] [] M
  refine z_goto (tgt := 3090) dL_law__2492 (by decide) ?_
  exact h
set_option maxRecDepth 20000 in
set_option maxHeartbeats 40000000 in
theorem t_L_law__2560 {E : zEv} {D K k : Nat} {post : Int32 → zM → Prop} {px : String → zM → Prop} {M : zM} {y4 : Int32} (hk : k + 4 ≤ K) (h : w_L_law__3090 E D K post px k y4 M) : w_L_law__2560 E D K post px k y4 M := by
  show Z E jL_law_ (D + 1) K (zQi post px) 2560 k [.ref 400, .ref 19, .ref 0, .ref 18, .int y4, zU, zU] [] M
  refine z_goto (tgt := 3090) dL_law__2560 (by decide) ?_
  exact h
set_option maxRecDepth 20000 in
set_option maxHeartbeats 40000000 in
theorem t_L_law__2680 {E : zEv} {D K k : Nat} {post : Int32 → zM → Prop} {px : String → zM → Prop} {M : zM} {y4 : Int32} (hk : k + 4 ≤ K) (h : w_L_law__3090 E D K post px k y4 M) : w_L_law__2680 E D K post px k y4 M := by
  show Z E jL_law_ (D + 1) K (zQi post px) 2680 k [.ref 400, .ref 19, .ref 0, .ref 18, .int y4, zU, zU] [] M
  refine z_goto (tgt := 3090) dL_law__2680 (by decide) ?_
  exact h
set_option maxRecDepth 20000 in
set_option maxHeartbeats 40000000 in
theorem t_L_law__2704 {E : zEv} {D K k : Nat} {post : Int32 → zM → Prop} {px : String → zM → Prop} {M : zM} {y4 : Int32} {s0 : Int32} {s1 : Int32} (hk : k + 4 ≤ K) (h : zCWi E jL_trial D 1 [.ref 19, .int s1, .int s0, .ref 18] M (fun r3 M1 => vp_in (y4 + (1 : Int32)) (zLn E) ∧ vp_in (y4 + (2 : Int32)) (zLn E) ∧ (((zxs E ((y4 + (2 : Int32))).toNatClampNeg) = 0 → w_L_law__2731 E D K post px (k + 1) y4 r3 (0 : Int32) (zxs E ((y4 + (1 : Int32))).toNatClampNeg) M1) ∧ (¬ (zxs E ((y4 + (2 : Int32))).toNatClampNeg) = 0 → w_L_law__2731 E D K post px (k + 1) y4 r3 (1 : Int32) (zxs E ((y4 + (1 : Int32))).toNatClampNeg) M1)))) : w_L_law__2704 E D K post px k y4 s0 s1 M := by
  show Z E jL_law_ (D + 1) K (zQi post px) 2704 k [.ref 400, .ref 19, .ref 0, .ref 18, .int y4, zU, zU] [.int s0, .int s1, .ref 19] M
  refine z_aload_n dL_law__2704 rfl ?_
  refine z_callWi (As := [.ref 19, .int s1, .int s0, .ref 18]) (st := []) dL_law__2705 zi_L_318 rfl rfl (Nat.le_of_ble_eq_true rfl) (by omega) h ?_
  intro r3 M1 h2
  refine z_istore dL_law__2708 (by decide) (ls' := [.ref 400, .ref 19, .ref 0, .ref 18, .int y4, .int r3, zU]) rfl ?_
  refine z_aload_n dL_law__2710 rfl ?_
  refine z_aload_n dL_law__2711 rfl ?_
  refine z_iload dL_law__2712 rfl ?_
  refine z_iconst (v := (1 : Int32)) dL_law__2714 rfl ?_
  refine z_iadd dL_law__2715 ?_
  obtain ⟨g5, h4⟩ := h2
  refine z_sld dL_law__2716 g5 ?_
  refine z_aload_n dL_law__2717 rfl ?_
  refine z_iload dL_law__2718 rfl ?_
  refine z_iconst (v := (2 : Int32)) dL_law__2720 rfl ?_
  refine z_iadd dL_law__2721 ?_
  obtain ⟨g7, h6⟩ := h4
  refine z_sld dL_law__2722 g7 ?_
  refine z_if_eq (tgt := 2730) dL_law__2723 (by decide) (fun g8 => ?_) (fun g8 => ?_)
  · have h9 := h6.1 g8
    refine z_iconst (v := (0 : Int32)) dL_law__2730 rfl ?_
    exact h9
  · have h10 := h6.2 g8
    refine z_iconst (v := (1 : Int32)) dL_law__2726 rfl ?_
    refine z_goto (tgt := 2731) dL_law__2727 (by decide) ?_
    exact h10
set_option maxRecDepth 20000 in
set_option maxHeartbeats 40000000 in
theorem t_L_law__2788 {E : zEv} {D K k : Nat} {post : Int32 → zM → Prop} {px : String → zM → Prop} {M : zM} {y4 : Int32} {s0 : Int32} {s1 : Int32} (hk : k + 4 ≤ K) (h : zCWi E jL_span D 1 [.ref 19, .int s1, .int s0, .ref 18] M (fun r3 M1 => vp_in (y4 + (1 : Int32)) (zLn E) ∧ vp_in (y4 + (2 : Int32)) (zLn E) ∧ (((zxs E ((y4 + (2 : Int32))).toNatClampNeg) = 0 → w_L_law__2815 E D K post px (k + 1) y4 r3 (0 : Int32) (zxs E ((y4 + (1 : Int32))).toNatClampNeg) M1) ∧ (¬ (zxs E ((y4 + (2 : Int32))).toNatClampNeg) = 0 → w_L_law__2815 E D K post px (k + 1) y4 r3 (1 : Int32) (zxs E ((y4 + (1 : Int32))).toNatClampNeg) M1)))) : w_L_law__2788 E D K post px k y4 s0 s1 M := by
  show Z E jL_law_ (D + 1) K (zQi post px) 2788 k [.ref 400, .ref 19, .ref 0, .ref 18, .int y4, zU, zU] [.int s0, .int s1, .ref 19] M
  refine z_aload_n dL_law__2788 rfl ?_
  refine z_callWi (As := [.ref 19, .int s1, .int s0, .ref 18]) (st := []) dL_law__2789 zi_L_321 rfl rfl (Nat.le_of_ble_eq_true rfl) (by omega) h ?_
  intro r3 M1 h2
  refine z_istore dL_law__2792 (by decide) (ls' := [.ref 400, .ref 19, .ref 0, .ref 18, .int y4, .int r3, zU]) rfl ?_
  refine z_aload_n dL_law__2794 rfl ?_
  refine z_aload_n dL_law__2795 rfl ?_
  refine z_iload dL_law__2796 rfl ?_
  refine z_iconst (v := (1 : Int32)) dL_law__2798 rfl ?_
  refine z_iadd dL_law__2799 ?_
  obtain ⟨g5, h4⟩ := h2
  refine z_sld dL_law__2800 g5 ?_
  refine z_aload_n dL_law__2801 rfl ?_
  refine z_iload dL_law__2802 rfl ?_
  refine z_iconst (v := (2 : Int32)) dL_law__2804 rfl ?_
  refine z_iadd dL_law__2805 ?_
  obtain ⟨g7, h6⟩ := h4
  refine z_sld dL_law__2806 g7 ?_
  refine z_if_eq (tgt := 2814) dL_law__2807 (by decide) (fun g8 => ?_) (fun g8 => ?_)
  · have h9 := h6.1 g8
    refine z_iconst (v := (0 : Int32)) dL_law__2814 rfl ?_
    exact h9
  · have h10 := h6.2 g8
    refine z_iconst (v := (1 : Int32)) dL_law__2810 rfl ?_
    refine z_goto (tgt := 2815) dL_law__2811 (by decide) ?_
    exact h10
set_option maxRecDepth 20000 in
set_option maxHeartbeats 40000000 in
theorem t_L_law__2872 {E : zEv} {D K k : Nat} {post : Int32 → zM → Prop} {px : String → zM → Prop} {M : zM} {y4 : Int32} {s0 : Int32} {s1 : Int32} (hk : k + 4 ≤ K) (h : zCWi E jL_led D 1 [.ref 19, .int s1, .int s0, .ref 18] M (fun r3 M1 => vp_in (y4 + (1 : Int32)) (zLn E) ∧ vp_in (y4 + (2 : Int32)) (zLn E) ∧ (((zxs E ((y4 + (2 : Int32))).toNatClampNeg) = 0 → w_L_law__2899 E D K post px (k + 1) y4 r3 (0 : Int32) (zxs E ((y4 + (1 : Int32))).toNatClampNeg) M1) ∧ (¬ (zxs E ((y4 + (2 : Int32))).toNatClampNeg) = 0 → w_L_law__2899 E D K post px (k + 1) y4 r3 (1 : Int32) (zxs E ((y4 + (1 : Int32))).toNatClampNeg) M1)))) : w_L_law__2872 E D K post px k y4 s0 s1 M := by
  show Z E jL_law_ (D + 1) K (zQi post px) 2872 k [.ref 400, .ref 19, .ref 0, .ref 18, .int y4, zU, zU] [.int s0, .int s1, .ref 19] M
  refine z_aload_n dL_law__2872 rfl ?_
  refine z_callWi (As := [.ref 19, .int s1, .int s0, .ref 18]) (st := []) dL_law__2873 zi_L_324 rfl rfl (Nat.le_of_ble_eq_true rfl) (by omega) h ?_
  intro r3 M1 h2
  refine z_istore dL_law__2876 (by decide) (ls' := [.ref 400, .ref 19, .ref 0, .ref 18, .int y4, .int r3, zU]) rfl ?_
  refine z_aload_n dL_law__2878 rfl ?_
  refine z_aload_n dL_law__2879 rfl ?_
  refine z_iload dL_law__2880 rfl ?_
  refine z_iconst (v := (1 : Int32)) dL_law__2882 rfl ?_
  refine z_iadd dL_law__2883 ?_
  obtain ⟨g5, h4⟩ := h2
  refine z_sld dL_law__2884 g5 ?_
  refine z_aload_n dL_law__2885 rfl ?_
  refine z_iload dL_law__2886 rfl ?_
  refine z_iconst (v := (2 : Int32)) dL_law__2888 rfl ?_
  refine z_iadd dL_law__2889 ?_
  obtain ⟨g7, h6⟩ := h4
  refine z_sld dL_law__2890 g7 ?_
  refine z_if_eq (tgt := 2898) dL_law__2891 (by decide) (fun g8 => ?_) (fun g8 => ?_)
  · have h9 := h6.1 g8
    refine z_iconst (v := (0 : Int32)) dL_law__2898 rfl ?_
    exact h9
  · have h10 := h6.2 g8
    refine z_iconst (v := (1 : Int32)) dL_law__2894 rfl ?_
    refine z_goto (tgt := 2899) dL_law__2895 (by decide) ?_
    exact h10
set_option maxRecDepth 20000 in
set_option maxHeartbeats 40000000 in
theorem t_L_law__3000 {E : zEv} {D K k : Nat} {post : Int32 → zM → Prop} {px : String → zM → Prop} {M : zM} {y4 : Int32} (hk : k + 4 ≤ K) (h : w_L_law__3090 E D K post px k y4 M) : w_L_law__3000 E D K post px k y4 M := by
  show Z E jL_law_ (D + 1) K (zQi post px) 3000 k [.ref 400, .ref 19, .ref 0, .ref 18, .int y4, zU, zU] [] M
  refine z_goto (tgt := 3090) dL_law__3000 (by decide) ?_
  exact h
set_option maxRecDepth 20000 in
set_option maxHeartbeats 40000000 in
theorem t_L_law__1143 {E : zEv} {D K k : Nat} {post : Int32 → zM → Prop} {px : String → zM → Prop} {M : zM} {y4 : Int32} {y5 : Int32} {s0 : Int32} {s1 : Int32} (hk : k + 4 ≤ K) (h : zCi E jX12_tell D 0 [.ref 0, .int s1, .int s0] M (fun r3 M1 => zCi E jX12_thrown D 0 [.ref 0] M1 (fun r6 M4 => ((r6 = y5 → ((¬ y5 = 0 → w_L_law__1183 E D K post px k y4 M4) ∧ (y5 = 0 → ((r3 = 0 → w_L_law__1177 E D K post px k y4 (0 : Int64) (M4.2 18 ((0 : Int32)).toNatClampNeg) M4) ∧ (¬ r3 = 0 → w_L_law__1177 E D K post px k y4 (1 : Int64) (M4.2 18 ((0 : Int32)).toNatClampNeg) M4))))) ∧ (¬ r6 = y5 → post (0 : Int32) M4))) px) px) : w_L_law__1143 E D K post px k y4 y5 s0 s1 M := by
  show Z E jL_law_ (D + 1) K (zQi post px) 1143 k [.ref 400, .ref 19, .ref 0, .ref 18, .int y4, .int y5, zU] [.int s0, .int s1, .ref 0] M
  refine z_callVi (As := [.int s1, .int s0]) (st := []) dL_law__1143 zi_L_208 rfl rfl zs_0 rfl rfl (Nat.le_of_ble_eq_true rfl) (by omega) (fun _ _ hx => hx) h ?_
  intro r3 M1 h2
  refine z_istore dL_law__1146 (by decide) (ls' := [.ref 400, .ref 19, .ref 0, .ref 18, .int y4, .int y5, .int r3]) rfl ?_
  refine z_aload_n dL_law__1148 rfl ?_
  refine z_callVi (As := []) (st := []) dL_law__1149 zi_L_163 rfl rfl zs_0 rfl rfl (Nat.le_of_ble_eq_true rfl) (by omega) (fun _ _ hx => hx) h2 ?_
  intro r6 M4 h5
  refine z_iload dL_law__1152 rfl ?_
  refine z_icmp_eq (tgt := 1159) dL_law__1154 (by decide) (fun g7 => ?_) (fun g7 => ?_)
  · have h8 := h5.1 g7
    refine z_iload dL_law__1159 rfl ?_
    refine z_if_ne (tgt := 1183) dL_law__1161 (by decide) (fun g10 => ?_) (fun g10 => ?_)
    · have h11 := h8.1 g10
      refine z_weak [true, true, true, true, true, false, false] (ls' := [.ref 400, .ref 19, .ref 0, .ref 18, .int y4, zU, zU]) rfl rfl ?_
      exact h11
    · have h12 := h8.2 g10
      refine z_aload_n dL_law__1164 rfl ?_
      refine z_iconst (v := (0 : Int32)) dL_law__1165 rfl ?_
      refine z_lald dL_law__1166 zs_18 (by unfold vp_in; decide) ?_
      refine z_iload dL_law__1167 rfl ?_
      refine z_if_eq (tgt := 1176) dL_law__1169 (by decide) (fun g13 => ?_) (fun g13 => ?_)
      · have h14 := h12.1 g13
        refine z_lconst (v := (0 : Int64)) dL_law__1176 rfl ?_
        refine z_weak [true, true, true, true, true, false, false] (ls' := [.ref 400, .ref 19, .ref 0, .ref 18, .int y4, zU, zU]) rfl rfl ?_
        exact h14
      · have h15 := h12.2 g13
        refine z_lconst (v := (1 : Int64)) dL_law__1172 rfl ?_
        refine z_goto (tgt := 1177) dL_law__1173 (by decide) ?_
        refine z_weak [true, true, true, true, true, false, false] (ls' := [.ref 400, .ref 19, .ref 0, .ref 18, .int y4, zU, zU]) rfl rfl ?_
        exact h15
  · have h9 := h5.2 g7
    refine z_iconst (v := (0 : Int32)) dL_law__1157 rfl ?_
    exact z_iret dL_law__1158 rfl (by decide) (by omega) h9
set_option maxRecDepth 20000 in
set_option maxHeartbeats 40000000 in
theorem t_L_law__2731 {E : zEv} {D K k : Nat} {post : Int32 → zM → Prop} {px : String → zM → Prop} {M : zM} {y4 : Int32} {y5 : Int32} {s0 : Int32} {s1 : Int32} (hk : k + 4 ≤ K) (h : zCi E jX12_trial D 0 [.ref 0, .int s1, .int s0] M (fun r3 M1 => zCi E jX12_thrown D 0 [.ref 0] M1 (fun r6 M4 => ((r6 = y5 → ((¬ y5 = 0 → w_L_law__2764 E D K post px k y4 M4) ∧ (y5 = 0 → (((lg_cmp (M4.2 18 ((0 : Int32)).toNatClampNeg) ((r3).toInt64)) = 0 → w_L_law__2764 E D K post px k y4 M4) ∧ (¬ (lg_cmp (M4.2 18 ((0 : Int32)).toNatClampNeg) ((r3).toInt64)) = 0 → post (0 : Int32) M4))))) ∧ (¬ r6 = y5 → post (0 : Int32) M4))) px) px) : w_L_law__2731 E D K post px k y4 y5 s0 s1 M := by
  show Z E jL_law_ (D + 1) K (zQi post px) 2731 k [.ref 400, .ref 19, .ref 0, .ref 18, .int y4, .int y5, zU] [.int s0, .int s1, .ref 0] M
  refine z_callVi (As := [.int s1, .int s0]) (st := []) dL_law__2731 zi_L_320 rfl rfl zs_0 rfl rfl (Nat.le_of_ble_eq_true rfl) (by omega) (fun _ _ hx => hx) h ?_
  intro r3 M1 h2
  refine z_istore dL_law__2734 (by decide) (ls' := [.ref 400, .ref 19, .ref 0, .ref 18, .int y4, .int y5, .int r3]) rfl ?_
  refine z_aload_n dL_law__2736 rfl ?_
  refine z_callVi (As := []) (st := []) dL_law__2737 zi_L_163 rfl rfl zs_0 rfl rfl (Nat.le_of_ble_eq_true rfl) (by omega) (fun _ _ hx => hx) h2 ?_
  intro r6 M4 h5
  refine z_iload dL_law__2740 rfl ?_
  refine z_icmp_eq (tgt := 2747) dL_law__2742 (by decide) (fun g7 => ?_) (fun g7 => ?_)
  · have h8 := h5.1 g7
    refine z_iload dL_law__2747 rfl ?_
    refine z_if_ne (tgt := 2764) dL_law__2749 (by decide) (fun g10 => ?_) (fun g10 => ?_)
    · have h11 := h8.1 g10
      refine z_weak [true, true, true, true, true, false, false] (ls' := [.ref 400, .ref 19, .ref 0, .ref 18, .int y4, zU, zU]) rfl rfl ?_
      exact h11
    · have h12 := h8.2 g10
      refine z_aload_n dL_law__2752 rfl ?_
      refine z_iconst (v := (0 : Int32)) dL_law__2753 rfl ?_
      refine z_lald dL_law__2754 zs_18 (by unfold vp_in; decide) ?_
      refine z_iload dL_law__2755 rfl ?_
      refine z_i2l (v := ((r3).toInt64)) dL_law__2757 rfl ?_
      refine z_lcmp dL_law__2758 ?_
      refine z_if_eq (tgt := 2764) dL_law__2759 (by decide) (fun g13 => ?_) (fun g13 => ?_)
      · have h14 := h12.1 g13
        refine z_weak [true, true, true, true, true, false, false] (ls' := [.ref 400, .ref 19, .ref 0, .ref 18, .int y4, zU, zU]) rfl rfl ?_
        exact h14
      · have h15 := h12.2 g13
        refine z_iconst (v := (0 : Int32)) dL_law__2762 rfl ?_
        exact z_iret dL_law__2763 rfl (by decide) (by omega) h15
  · have h9 := h5.2 g7
    refine z_iconst (v := (0 : Int32)) dL_law__2745 rfl ?_
    exact z_iret dL_law__2746 rfl (by decide) (by omega) h9
set_option maxRecDepth 20000 in
set_option maxHeartbeats 40000000 in
theorem t_L_law__2815 {E : zEv} {D K k : Nat} {post : Int32 → zM → Prop} {px : String → zM → Prop} {M : zM} {y4 : Int32} {y5 : Int32} {s0 : Int32} {s1 : Int32} (hk : k + 4 ≤ K) (h : zCi E jX12_span D 0 [.ref 0, .int s1, .int s0] M (fun r3 M1 => zCi E jX12_thrown D 0 [.ref 0] M1 (fun r6 M4 => ((r6 = y5 → ((¬ y5 = 0 → w_L_law__2848 E D K post px k y4 M4) ∧ (y5 = 0 → (((lg_cmp (M4.2 18 ((0 : Int32)).toNatClampNeg) ((r3).toInt64)) = 0 → w_L_law__2848 E D K post px k y4 M4) ∧ (¬ (lg_cmp (M4.2 18 ((0 : Int32)).toNatClampNeg) ((r3).toInt64)) = 0 → post (0 : Int32) M4))))) ∧ (¬ r6 = y5 → post (0 : Int32) M4))) px) px) : w_L_law__2815 E D K post px k y4 y5 s0 s1 M := by
  show Z E jL_law_ (D + 1) K (zQi post px) 2815 k [.ref 400, .ref 19, .ref 0, .ref 18, .int y4, .int y5, zU] [.int s0, .int s1, .ref 0] M
  refine z_callVi (As := [.int s1, .int s0]) (st := []) dL_law__2815 zi_L_323 rfl rfl zs_0 rfl rfl (Nat.le_of_ble_eq_true rfl) (by omega) (fun _ _ hx => hx) h ?_
  intro r3 M1 h2
  refine z_istore dL_law__2818 (by decide) (ls' := [.ref 400, .ref 19, .ref 0, .ref 18, .int y4, .int y5, .int r3]) rfl ?_
  refine z_aload_n dL_law__2820 rfl ?_
  refine z_callVi (As := []) (st := []) dL_law__2821 zi_L_163 rfl rfl zs_0 rfl rfl (Nat.le_of_ble_eq_true rfl) (by omega) (fun _ _ hx => hx) h2 ?_
  intro r6 M4 h5
  refine z_iload dL_law__2824 rfl ?_
  refine z_icmp_eq (tgt := 2831) dL_law__2826 (by decide) (fun g7 => ?_) (fun g7 => ?_)
  · have h8 := h5.1 g7
    refine z_iload dL_law__2831 rfl ?_
    refine z_if_ne (tgt := 2848) dL_law__2833 (by decide) (fun g10 => ?_) (fun g10 => ?_)
    · have h11 := h8.1 g10
      refine z_weak [true, true, true, true, true, false, false] (ls' := [.ref 400, .ref 19, .ref 0, .ref 18, .int y4, zU, zU]) rfl rfl ?_
      exact h11
    · have h12 := h8.2 g10
      refine z_aload_n dL_law__2836 rfl ?_
      refine z_iconst (v := (0 : Int32)) dL_law__2837 rfl ?_
      refine z_lald dL_law__2838 zs_18 (by unfold vp_in; decide) ?_
      refine z_iload dL_law__2839 rfl ?_
      refine z_i2l (v := ((r3).toInt64)) dL_law__2841 rfl ?_
      refine z_lcmp dL_law__2842 ?_
      refine z_if_eq (tgt := 2848) dL_law__2843 (by decide) (fun g13 => ?_) (fun g13 => ?_)
      · have h14 := h12.1 g13
        refine z_weak [true, true, true, true, true, false, false] (ls' := [.ref 400, .ref 19, .ref 0, .ref 18, .int y4, zU, zU]) rfl rfl ?_
        exact h14
      · have h15 := h12.2 g13
        refine z_iconst (v := (0 : Int32)) dL_law__2846 rfl ?_
        exact z_iret dL_law__2847 rfl (by decide) (by omega) h15
  · have h9 := h5.2 g7
    refine z_iconst (v := (0 : Int32)) dL_law__2829 rfl ?_
    exact z_iret dL_law__2830 rfl (by decide) (by omega) h9
set_option maxRecDepth 20000 in
set_option maxHeartbeats 40000000 in
theorem t_L_law__2899 {E : zEv} {D K k : Nat} {post : Int32 → zM → Prop} {px : String → zM → Prop} {M : zM} {y4 : Int32} {y5 : Int32} {s0 : Int32} {s1 : Int32} (hk : k + 4 ≤ K) (h : zCi E jX12_led D 0 [.ref 0, .int s1, .int s0] M (fun r3 M1 => zCi E jX12_thrown D 0 [.ref 0] M1 (fun r6 M4 => ((r6 = y5 → ((¬ y5 = 0 → w_L_law__2932 E D K post px k y4 M4) ∧ (y5 = 0 → (((lg_cmp (M4.2 18 ((0 : Int32)).toNatClampNeg) ((r3).toInt64)) = 0 → w_L_law__2932 E D K post px k y4 M4) ∧ (¬ (lg_cmp (M4.2 18 ((0 : Int32)).toNatClampNeg) ((r3).toInt64)) = 0 → post (0 : Int32) M4))))) ∧ (¬ r6 = y5 → post (0 : Int32) M4))) px) px) : w_L_law__2899 E D K post px k y4 y5 s0 s1 M := by
  show Z E jL_law_ (D + 1) K (zQi post px) 2899 k [.ref 400, .ref 19, .ref 0, .ref 18, .int y4, .int y5, zU] [.int s0, .int s1, .ref 0] M
  refine z_callVi (As := [.int s1, .int s0]) (st := []) dL_law__2899 zi_L_326 rfl rfl zs_0 rfl rfl (Nat.le_of_ble_eq_true rfl) (by omega) (fun _ _ hx => hx) h ?_
  intro r3 M1 h2
  refine z_istore dL_law__2902 (by decide) (ls' := [.ref 400, .ref 19, .ref 0, .ref 18, .int y4, .int y5, .int r3]) rfl ?_
  refine z_aload_n dL_law__2904 rfl ?_
  refine z_callVi (As := []) (st := []) dL_law__2905 zi_L_163 rfl rfl zs_0 rfl rfl (Nat.le_of_ble_eq_true rfl) (by omega) (fun _ _ hx => hx) h2 ?_
  intro r6 M4 h5
  refine z_iload dL_law__2908 rfl ?_
  refine z_icmp_eq (tgt := 2915) dL_law__2910 (by decide) (fun g7 => ?_) (fun g7 => ?_)
  · have h8 := h5.1 g7
    refine z_iload dL_law__2915 rfl ?_
    refine z_if_ne (tgt := 2932) dL_law__2917 (by decide) (fun g10 => ?_) (fun g10 => ?_)
    · have h11 := h8.1 g10
      refine z_weak [true, true, true, true, true, false, false] (ls' := [.ref 400, .ref 19, .ref 0, .ref 18, .int y4, zU, zU]) rfl rfl ?_
      exact h11
    · have h12 := h8.2 g10
      refine z_aload_n dL_law__2920 rfl ?_
      refine z_iconst (v := (0 : Int32)) dL_law__2921 rfl ?_
      refine z_lald dL_law__2922 zs_18 (by unfold vp_in; decide) ?_
      refine z_iload dL_law__2923 rfl ?_
      refine z_i2l (v := ((r3).toInt64)) dL_law__2925 rfl ?_
      refine z_lcmp dL_law__2926 ?_
      refine z_if_eq (tgt := 2932) dL_law__2927 (by decide) (fun g13 => ?_) (fun g13 => ?_)
      · have h14 := h12.1 g13
        refine z_weak [true, true, true, true, true, false, false] (ls' := [.ref 400, .ref 19, .ref 0, .ref 18, .int y4, zU, zU]) rfl rfl ?_
        exact h14
      · have h15 := h12.2 g13
        refine z_iconst (v := (0 : Int32)) dL_law__2930 rfl ?_
        exact z_iret dL_law__2931 rfl (by decide) (by omega) h15
  · have h9 := h5.2 g7
    refine z_iconst (v := (0 : Int32)) dL_law__2913 rfl ?_
    exact z_iret dL_law__2914 rfl (by decide) (by omega) h9
set_option maxRecDepth 20000 in
set_option maxHeartbeats 40000000 in
theorem t_L_law__1183 {E : zEv} {D K k : Nat} {post : Int32 → zM → Prop} {px : String → zM → Prop} {M : zM} {y4 : Int32} (hk : k + 4 ≤ K) (h : w_L_law__3090 E D K post px k y4 M) : w_L_law__1183 E D K post px k y4 M := by
  show Z E jL_law_ (D + 1) K (zQi post px) 1183 k [.ref 400, .ref 19, .ref 0, .ref 18, .int y4, zU, zU] [] M
  refine z_goto (tgt := 3090) dL_law__1183 (by decide) ?_
  exact h
set_option maxRecDepth 20000 in
set_option maxHeartbeats 40000000 in
theorem t_L_law__1177 {E : zEv} {D K k : Nat} {post : Int32 → zM → Prop} {px : String → zM → Prop} {M : zM} {y4 : Int32} {s0 : Int64} {s1 : Int64} (hk : k + 4 ≤ K) (h : (((lg_cmp s1 s0) = 0 → w_L_law__1183 E D K post px k y4 M) ∧ (¬ (lg_cmp s1 s0) = 0 → post (0 : Int32) M))) : w_L_law__1177 E D K post px k y4 s0 s1 M := by
  show Z E jL_law_ (D + 1) K (zQi post px) 1177 k [.ref 400, .ref 19, .ref 0, .ref 18, .int y4, zU, zU] [.long s0, .long s1] M
  refine z_lcmp dL_law__1177 ?_
  refine z_if_eq (tgt := 1183) dL_law__1178 (by decide) (fun g1 => ?_) (fun g1 => ?_)
  · have h2 := h.1 g1
    exact h2
  · have h3 := h.2 g1
    refine z_iconst (v := (0 : Int32)) dL_law__1181 rfl ?_
    exact z_iret dL_law__1182 rfl (by decide) (by omega) h3
set_option maxRecDepth 20000 in
set_option maxHeartbeats 40000000 in
theorem t_L_law__2764 {E : zEv} {D K k : Nat} {post : Int32 → zM → Prop} {px : String → zM → Prop} {M : zM} {y4 : Int32} (hk : k + 4 ≤ K) (h : w_L_law__3090 E D K post px k y4 M) : w_L_law__2764 E D K post px k y4 M := by
  show Z E jL_law_ (D + 1) K (zQi post px) 2764 k [.ref 400, .ref 19, .ref 0, .ref 18, .int y4, zU, zU] [] M
  refine z_goto (tgt := 3090) dL_law__2764 (by decide) ?_
  exact h
set_option maxRecDepth 20000 in
set_option maxHeartbeats 40000000 in
theorem t_L_law__2848 {E : zEv} {D K k : Nat} {post : Int32 → zM → Prop} {px : String → zM → Prop} {M : zM} {y4 : Int32} (hk : k + 4 ≤ K) (h : w_L_law__3090 E D K post px k y4 M) : w_L_law__2848 E D K post px k y4 M := by
  show Z E jL_law_ (D + 1) K (zQi post px) 2848 k [.ref 400, .ref 19, .ref 0, .ref 18, .int y4, zU, zU] [] M
  refine z_goto (tgt := 3090) dL_law__2848 (by decide) ?_
  exact h
set_option maxRecDepth 20000 in
set_option maxHeartbeats 40000000 in
theorem t_L_law__2932 {E : zEv} {D K k : Nat} {post : Int32 → zM → Prop} {px : String → zM → Prop} {M : zM} {y4 : Int32} (hk : k + 4 ≤ K) (h : w_L_law__3090 E D K post px k y4 M) : w_L_law__2932 E D K post px k y4 M := by
  show Z E jL_law_ (D + 1) K (zQi post px) 2932 k [.ref 400, .ref 19, .ref 0, .ref 18, .int y4, zU, zU] [] M
  refine z_goto (tgt := 3090) dL_law__2932 (by decide) ?_
  exact h
