section
variable {S : bS}
theorem bss_n {u v : Nat} : bs_n (bs_n S v) u = bs_n S u := rfl
theorem bsi_n : bs_n S (b_n S) = S := rfl
theorem bg_n {v : Nat} : b_n (bs_n S v) = v := rfl
theorem bg_n_g {v : Nat → Nat} : b_n (bs_g S v) = b_n S := rfl
theorem bsc_n_g {v : Nat → Nat} {w : Nat} : bs_n (bs_g S v) w = bs_g (bs_n S w) v := rfl
theorem bg_n_s {v : Nat} : b_n (bs_s S v) = b_n S := rfl
theorem bsc_n_s {v : Nat} {w : Nat} : bs_n (bs_s S v) w = bs_s (bs_n S w) v := rfl
theorem bg_n_T {v : Nat → List Nat} : b_n (bs_T S v) = b_n S := rfl
theorem bsc_n_T {v : Nat → List Nat} {w : Nat} : bs_n (bs_T S v) w = bs_T (bs_n S w) v := rfl
theorem bg_n_H {v : Nat → List Nat} : b_n (bs_H S v) = b_n S := rfl
theorem bsc_n_H {v : Nat → List Nat} {w : Nat} : bs_n (bs_H S v) w = bs_H (bs_n S w) v := rfl
theorem bg_n_Q {v : Nat → List Nat} : b_n (bs_Q S v) = b_n S := rfl
theorem bsc_n_Q {v : Nat → List Nat} {w : Nat} : bs_n (bs_Q S v) w = bs_Q (bs_n S w) v := rfl
theorem bg_n_K {v : List (Nat × sp3)} : b_n (bs_K S v) = b_n S := rfl
theorem bsc_n_K {v : List (Nat × sp3)} {w : Nat} : bs_n (bs_K S v) w = bs_K (bs_n S w) v := rfl
theorem bg_n_su {v : Nat → Nat} : b_n (bs_su S v) = b_n S := rfl
theorem bsc_n_su {v : Nat → Nat} {w : Nat} : bs_n (bs_su S v) w = bs_su (bs_n S w) v := rfl
theorem bg_n_wa {v : Nat → Nat} : b_n (bs_wa S v) = b_n S := rfl
theorem bsc_n_wa {v : Nat → Nat} {w : Nat} : bs_n (bs_wa S v) w = bs_wa (bs_n S w) v := rfl
theorem bg_n_en {v : Nat → Bool} : b_n (bs_en S v) = b_n S := rfl
theorem bsc_n_en {v : Nat → Bool} {w : Nat} : bs_n (bs_en S v) w = bs_en (bs_n S w) v := rfl
theorem bg_n_N {v : List (Nat × Int32 × Int32 × Int32)} : b_n (bs_N S v) = b_n S := rfl
theorem bsc_n_N {v : List (Nat × Int32 × Int32 × Int32)} {w : Nat} : bs_n (bs_N S v) w = bs_N (bs_n S w) v := rfl
theorem bg_n_cn {v : Nat → Nat} : b_n (bs_cn S v) = b_n S := rfl
theorem bsc_n_cn {v : Nat → Nat} {w : Nat} : bs_n (bs_cn S v) w = bs_cn (bs_n S w) v := rfl
theorem bg_n_of {v : List Nat} : b_n (bs_of S v) = b_n S := rfl
theorem bsc_n_of {v : List Nat} {w : Nat} : bs_n (bs_of S v) w = bs_of (bs_n S w) v := rfl
theorem bg_n_nd {v : List Nat} : b_n (bs_nd S v) = b_n S := rfl
theorem bsc_n_nd {v : List Nat} {w : Nat} : bs_n (bs_nd S v) w = bs_nd (bs_n S w) v := rfl
theorem bg_n_pf {v : List (Nat × sp3)} : b_n (bs_pf S v) = b_n S := rfl
theorem bsc_n_pf {v : List (Nat × sp3)} {w : Nat} : bs_n (bs_pf S v) w = bs_pf (bs_n S w) v := rfl
theorem bss_g {u v : Nat → Nat} : bs_g (bs_g S v) u = bs_g S u := rfl
theorem bsi_g : bs_g S (b_g S) = S := rfl
theorem bg_g {v : Nat → Nat} : b_g (bs_g S v) = v := rfl
theorem bg_g_n {v : Nat} : b_g (bs_n S v) = b_g S := rfl
theorem bg_g_s {v : Nat} : b_g (bs_s S v) = b_g S := rfl
theorem bsc_g_s {v : Nat} {w : Nat → Nat} : bs_g (bs_s S v) w = bs_s (bs_g S w) v := rfl
theorem bg_g_T {v : Nat → List Nat} : b_g (bs_T S v) = b_g S := rfl
theorem bsc_g_T {v : Nat → List Nat} {w : Nat → Nat} : bs_g (bs_T S v) w = bs_T (bs_g S w) v := rfl
theorem bg_g_H {v : Nat → List Nat} : b_g (bs_H S v) = b_g S := rfl
theorem bsc_g_H {v : Nat → List Nat} {w : Nat → Nat} : bs_g (bs_H S v) w = bs_H (bs_g S w) v := rfl
theorem bg_g_Q {v : Nat → List Nat} : b_g (bs_Q S v) = b_g S := rfl
theorem bsc_g_Q {v : Nat → List Nat} {w : Nat → Nat} : bs_g (bs_Q S v) w = bs_Q (bs_g S w) v := rfl
theorem bg_g_K {v : List (Nat × sp3)} : b_g (bs_K S v) = b_g S := rfl
theorem bsc_g_K {v : List (Nat × sp3)} {w : Nat → Nat} : bs_g (bs_K S v) w = bs_K (bs_g S w) v := rfl
theorem bg_g_su {v : Nat → Nat} : b_g (bs_su S v) = b_g S := rfl
theorem bsc_g_su {v : Nat → Nat} {w : Nat → Nat} : bs_g (bs_su S v) w = bs_su (bs_g S w) v := rfl
theorem bg_g_wa {v : Nat → Nat} : b_g (bs_wa S v) = b_g S := rfl
theorem bsc_g_wa {v : Nat → Nat} {w : Nat → Nat} : bs_g (bs_wa S v) w = bs_wa (bs_g S w) v := rfl
theorem bg_g_en {v : Nat → Bool} : b_g (bs_en S v) = b_g S := rfl
theorem bsc_g_en {v : Nat → Bool} {w : Nat → Nat} : bs_g (bs_en S v) w = bs_en (bs_g S w) v := rfl
theorem bg_g_N {v : List (Nat × Int32 × Int32 × Int32)} : b_g (bs_N S v) = b_g S := rfl
theorem bsc_g_N {v : List (Nat × Int32 × Int32 × Int32)} {w : Nat → Nat} : bs_g (bs_N S v) w = bs_N (bs_g S w) v := rfl
theorem bg_g_cn {v : Nat → Nat} : b_g (bs_cn S v) = b_g S := rfl
theorem bsc_g_cn {v : Nat → Nat} {w : Nat → Nat} : bs_g (bs_cn S v) w = bs_cn (bs_g S w) v := rfl
theorem bg_g_of {v : List Nat} : b_g (bs_of S v) = b_g S := rfl
theorem bsc_g_of {v : List Nat} {w : Nat → Nat} : bs_g (bs_of S v) w = bs_of (bs_g S w) v := rfl
theorem bg_g_nd {v : List Nat} : b_g (bs_nd S v) = b_g S := rfl
theorem bsc_g_nd {v : List Nat} {w : Nat → Nat} : bs_g (bs_nd S v) w = bs_nd (bs_g S w) v := rfl
theorem bg_g_pf {v : List (Nat × sp3)} : b_g (bs_pf S v) = b_g S := rfl
theorem bsc_g_pf {v : List (Nat × sp3)} {w : Nat → Nat} : bs_g (bs_pf S v) w = bs_pf (bs_g S w) v := rfl
theorem bss_s {u v : Nat} : bs_s (bs_s S v) u = bs_s S u := rfl
theorem bsi_s : bs_s S (b_s S) = S := rfl
theorem bg_s {v : Nat} : b_s (bs_s S v) = v := rfl
theorem bg_s_n {v : Nat} : b_s (bs_n S v) = b_s S := rfl
theorem bg_s_g {v : Nat → Nat} : b_s (bs_g S v) = b_s S := rfl
theorem bg_s_T {v : Nat → List Nat} : b_s (bs_T S v) = b_s S := rfl
theorem bsc_s_T {v : Nat → List Nat} {w : Nat} : bs_s (bs_T S v) w = bs_T (bs_s S w) v := rfl
theorem bg_s_H {v : Nat → List Nat} : b_s (bs_H S v) = b_s S := rfl
theorem bsc_s_H {v : Nat → List Nat} {w : Nat} : bs_s (bs_H S v) w = bs_H (bs_s S w) v := rfl
theorem bg_s_Q {v : Nat → List Nat} : b_s (bs_Q S v) = b_s S := rfl
theorem bsc_s_Q {v : Nat → List Nat} {w : Nat} : bs_s (bs_Q S v) w = bs_Q (bs_s S w) v := rfl
theorem bg_s_K {v : List (Nat × sp3)} : b_s (bs_K S v) = b_s S := rfl
theorem bsc_s_K {v : List (Nat × sp3)} {w : Nat} : bs_s (bs_K S v) w = bs_K (bs_s S w) v := rfl
theorem bg_s_su {v : Nat → Nat} : b_s (bs_su S v) = b_s S := rfl
theorem bsc_s_su {v : Nat → Nat} {w : Nat} : bs_s (bs_su S v) w = bs_su (bs_s S w) v := rfl
theorem bg_s_wa {v : Nat → Nat} : b_s (bs_wa S v) = b_s S := rfl
theorem bsc_s_wa {v : Nat → Nat} {w : Nat} : bs_s (bs_wa S v) w = bs_wa (bs_s S w) v := rfl
theorem bg_s_en {v : Nat → Bool} : b_s (bs_en S v) = b_s S := rfl
theorem bsc_s_en {v : Nat → Bool} {w : Nat} : bs_s (bs_en S v) w = bs_en (bs_s S w) v := rfl
theorem bg_s_N {v : List (Nat × Int32 × Int32 × Int32)} : b_s (bs_N S v) = b_s S := rfl
theorem bsc_s_N {v : List (Nat × Int32 × Int32 × Int32)} {w : Nat} : bs_s (bs_N S v) w = bs_N (bs_s S w) v := rfl
theorem bg_s_cn {v : Nat → Nat} : b_s (bs_cn S v) = b_s S := rfl
theorem bsc_s_cn {v : Nat → Nat} {w : Nat} : bs_s (bs_cn S v) w = bs_cn (bs_s S w) v := rfl
theorem bg_s_of {v : List Nat} : b_s (bs_of S v) = b_s S := rfl
theorem bsc_s_of {v : List Nat} {w : Nat} : bs_s (bs_of S v) w = bs_of (bs_s S w) v := rfl
theorem bg_s_nd {v : List Nat} : b_s (bs_nd S v) = b_s S := rfl
theorem bsc_s_nd {v : List Nat} {w : Nat} : bs_s (bs_nd S v) w = bs_nd (bs_s S w) v := rfl
theorem bg_s_pf {v : List (Nat × sp3)} : b_s (bs_pf S v) = b_s S := rfl
theorem bsc_s_pf {v : List (Nat × sp3)} {w : Nat} : bs_s (bs_pf S v) w = bs_pf (bs_s S w) v := rfl
theorem bss_T {u v : Nat → List Nat} : bs_T (bs_T S v) u = bs_T S u := rfl
theorem bsi_T : bs_T S (b_T S) = S := rfl
theorem bg_T {v : Nat → List Nat} : b_T (bs_T S v) = v := rfl
theorem bg_T_n {v : Nat} : b_T (bs_n S v) = b_T S := rfl
theorem bg_T_g {v : Nat → Nat} : b_T (bs_g S v) = b_T S := rfl
theorem bg_T_s {v : Nat} : b_T (bs_s S v) = b_T S := rfl
theorem bg_T_H {v : Nat → List Nat} : b_T (bs_H S v) = b_T S := rfl
theorem bsc_T_H {v : Nat → List Nat} {w : Nat → List Nat} : bs_T (bs_H S v) w = bs_H (bs_T S w) v := rfl
theorem bg_T_Q {v : Nat → List Nat} : b_T (bs_Q S v) = b_T S := rfl
theorem bsc_T_Q {v : Nat → List Nat} {w : Nat → List Nat} : bs_T (bs_Q S v) w = bs_Q (bs_T S w) v := rfl
theorem bg_T_K {v : List (Nat × sp3)} : b_T (bs_K S v) = b_T S := rfl
theorem bsc_T_K {v : List (Nat × sp3)} {w : Nat → List Nat} : bs_T (bs_K S v) w = bs_K (bs_T S w) v := rfl
theorem bg_T_su {v : Nat → Nat} : b_T (bs_su S v) = b_T S := rfl
theorem bsc_T_su {v : Nat → Nat} {w : Nat → List Nat} : bs_T (bs_su S v) w = bs_su (bs_T S w) v := rfl
theorem bg_T_wa {v : Nat → Nat} : b_T (bs_wa S v) = b_T S := rfl
theorem bsc_T_wa {v : Nat → Nat} {w : Nat → List Nat} : bs_T (bs_wa S v) w = bs_wa (bs_T S w) v := rfl
theorem bg_T_en {v : Nat → Bool} : b_T (bs_en S v) = b_T S := rfl
theorem bsc_T_en {v : Nat → Bool} {w : Nat → List Nat} : bs_T (bs_en S v) w = bs_en (bs_T S w) v := rfl
theorem bg_T_N {v : List (Nat × Int32 × Int32 × Int32)} : b_T (bs_N S v) = b_T S := rfl
theorem bsc_T_N {v : List (Nat × Int32 × Int32 × Int32)} {w : Nat → List Nat} : bs_T (bs_N S v) w = bs_N (bs_T S w) v := rfl
theorem bg_T_cn {v : Nat → Nat} : b_T (bs_cn S v) = b_T S := rfl
theorem bsc_T_cn {v : Nat → Nat} {w : Nat → List Nat} : bs_T (bs_cn S v) w = bs_cn (bs_T S w) v := rfl
theorem bg_T_of {v : List Nat} : b_T (bs_of S v) = b_T S := rfl
theorem bsc_T_of {v : List Nat} {w : Nat → List Nat} : bs_T (bs_of S v) w = bs_of (bs_T S w) v := rfl
theorem bg_T_nd {v : List Nat} : b_T (bs_nd S v) = b_T S := rfl
theorem bsc_T_nd {v : List Nat} {w : Nat → List Nat} : bs_T (bs_nd S v) w = bs_nd (bs_T S w) v := rfl
theorem bg_T_pf {v : List (Nat × sp3)} : b_T (bs_pf S v) = b_T S := rfl
theorem bsc_T_pf {v : List (Nat × sp3)} {w : Nat → List Nat} : bs_T (bs_pf S v) w = bs_pf (bs_T S w) v := rfl
theorem bss_H {u v : Nat → List Nat} : bs_H (bs_H S v) u = bs_H S u := rfl
theorem bsi_H : bs_H S (b_H S) = S := rfl
theorem bg_H {v : Nat → List Nat} : b_H (bs_H S v) = v := rfl
theorem bg_H_n {v : Nat} : b_H (bs_n S v) = b_H S := rfl
theorem bg_H_g {v : Nat → Nat} : b_H (bs_g S v) = b_H S := rfl
theorem bg_H_s {v : Nat} : b_H (bs_s S v) = b_H S := rfl
theorem bg_H_T {v : Nat → List Nat} : b_H (bs_T S v) = b_H S := rfl
theorem bg_H_Q {v : Nat → List Nat} : b_H (bs_Q S v) = b_H S := rfl
theorem bsc_H_Q {v : Nat → List Nat} {w : Nat → List Nat} : bs_H (bs_Q S v) w = bs_Q (bs_H S w) v := rfl
theorem bg_H_K {v : List (Nat × sp3)} : b_H (bs_K S v) = b_H S := rfl
theorem bsc_H_K {v : List (Nat × sp3)} {w : Nat → List Nat} : bs_H (bs_K S v) w = bs_K (bs_H S w) v := rfl
theorem bg_H_su {v : Nat → Nat} : b_H (bs_su S v) = b_H S := rfl
theorem bsc_H_su {v : Nat → Nat} {w : Nat → List Nat} : bs_H (bs_su S v) w = bs_su (bs_H S w) v := rfl
theorem bg_H_wa {v : Nat → Nat} : b_H (bs_wa S v) = b_H S := rfl
theorem bsc_H_wa {v : Nat → Nat} {w : Nat → List Nat} : bs_H (bs_wa S v) w = bs_wa (bs_H S w) v := rfl
theorem bg_H_en {v : Nat → Bool} : b_H (bs_en S v) = b_H S := rfl
theorem bsc_H_en {v : Nat → Bool} {w : Nat → List Nat} : bs_H (bs_en S v) w = bs_en (bs_H S w) v := rfl
theorem bg_H_N {v : List (Nat × Int32 × Int32 × Int32)} : b_H (bs_N S v) = b_H S := rfl
theorem bsc_H_N {v : List (Nat × Int32 × Int32 × Int32)} {w : Nat → List Nat} : bs_H (bs_N S v) w = bs_N (bs_H S w) v := rfl
theorem bg_H_cn {v : Nat → Nat} : b_H (bs_cn S v) = b_H S := rfl
theorem bsc_H_cn {v : Nat → Nat} {w : Nat → List Nat} : bs_H (bs_cn S v) w = bs_cn (bs_H S w) v := rfl
theorem bg_H_of {v : List Nat} : b_H (bs_of S v) = b_H S := rfl
theorem bsc_H_of {v : List Nat} {w : Nat → List Nat} : bs_H (bs_of S v) w = bs_of (bs_H S w) v := rfl
theorem bg_H_nd {v : List Nat} : b_H (bs_nd S v) = b_H S := rfl
theorem bsc_H_nd {v : List Nat} {w : Nat → List Nat} : bs_H (bs_nd S v) w = bs_nd (bs_H S w) v := rfl
theorem bg_H_pf {v : List (Nat × sp3)} : b_H (bs_pf S v) = b_H S := rfl
theorem bsc_H_pf {v : List (Nat × sp3)} {w : Nat → List Nat} : bs_H (bs_pf S v) w = bs_pf (bs_H S w) v := rfl
theorem bss_Q {u v : Nat → List Nat} : bs_Q (bs_Q S v) u = bs_Q S u := rfl
theorem bsi_Q : bs_Q S (b_Q S) = S := rfl
theorem bg_Q {v : Nat → List Nat} : b_Q (bs_Q S v) = v := rfl
theorem bg_Q_n {v : Nat} : b_Q (bs_n S v) = b_Q S := rfl
theorem bg_Q_g {v : Nat → Nat} : b_Q (bs_g S v) = b_Q S := rfl
theorem bg_Q_s {v : Nat} : b_Q (bs_s S v) = b_Q S := rfl
theorem bg_Q_T {v : Nat → List Nat} : b_Q (bs_T S v) = b_Q S := rfl
theorem bg_Q_H {v : Nat → List Nat} : b_Q (bs_H S v) = b_Q S := rfl
theorem bg_Q_K {v : List (Nat × sp3)} : b_Q (bs_K S v) = b_Q S := rfl
theorem bsc_Q_K {v : List (Nat × sp3)} {w : Nat → List Nat} : bs_Q (bs_K S v) w = bs_K (bs_Q S w) v := rfl
theorem bg_Q_su {v : Nat → Nat} : b_Q (bs_su S v) = b_Q S := rfl
theorem bsc_Q_su {v : Nat → Nat} {w : Nat → List Nat} : bs_Q (bs_su S v) w = bs_su (bs_Q S w) v := rfl
theorem bg_Q_wa {v : Nat → Nat} : b_Q (bs_wa S v) = b_Q S := rfl
theorem bsc_Q_wa {v : Nat → Nat} {w : Nat → List Nat} : bs_Q (bs_wa S v) w = bs_wa (bs_Q S w) v := rfl
theorem bg_Q_en {v : Nat → Bool} : b_Q (bs_en S v) = b_Q S := rfl
theorem bsc_Q_en {v : Nat → Bool} {w : Nat → List Nat} : bs_Q (bs_en S v) w = bs_en (bs_Q S w) v := rfl
theorem bg_Q_N {v : List (Nat × Int32 × Int32 × Int32)} : b_Q (bs_N S v) = b_Q S := rfl
theorem bsc_Q_N {v : List (Nat × Int32 × Int32 × Int32)} {w : Nat → List Nat} : bs_Q (bs_N S v) w = bs_N (bs_Q S w) v := rfl
theorem bg_Q_cn {v : Nat → Nat} : b_Q (bs_cn S v) = b_Q S := rfl
theorem bsc_Q_cn {v : Nat → Nat} {w : Nat → List Nat} : bs_Q (bs_cn S v) w = bs_cn (bs_Q S w) v := rfl
theorem bg_Q_of {v : List Nat} : b_Q (bs_of S v) = b_Q S := rfl
theorem bsc_Q_of {v : List Nat} {w : Nat → List Nat} : bs_Q (bs_of S v) w = bs_of (bs_Q S w) v := rfl
theorem bg_Q_nd {v : List Nat} : b_Q (bs_nd S v) = b_Q S := rfl
theorem bsc_Q_nd {v : List Nat} {w : Nat → List Nat} : bs_Q (bs_nd S v) w = bs_nd (bs_Q S w) v := rfl
theorem bg_Q_pf {v : List (Nat × sp3)} : b_Q (bs_pf S v) = b_Q S := rfl
theorem bsc_Q_pf {v : List (Nat × sp3)} {w : Nat → List Nat} : bs_Q (bs_pf S v) w = bs_pf (bs_Q S w) v := rfl
theorem bss_K {u v : List (Nat × sp3)} : bs_K (bs_K S v) u = bs_K S u := rfl
theorem bsi_K : bs_K S (b_K S) = S := rfl
theorem bg_K {v : List (Nat × sp3)} : b_K (bs_K S v) = v := rfl
theorem bg_K_n {v : Nat} : b_K (bs_n S v) = b_K S := rfl
theorem bg_K_g {v : Nat → Nat} : b_K (bs_g S v) = b_K S := rfl
theorem bg_K_s {v : Nat} : b_K (bs_s S v) = b_K S := rfl
theorem bg_K_T {v : Nat → List Nat} : b_K (bs_T S v) = b_K S := rfl
theorem bg_K_H {v : Nat → List Nat} : b_K (bs_H S v) = b_K S := rfl
theorem bg_K_Q {v : Nat → List Nat} : b_K (bs_Q S v) = b_K S := rfl
theorem bg_K_su {v : Nat → Nat} : b_K (bs_su S v) = b_K S := rfl
theorem bsc_K_su {v : Nat → Nat} {w : List (Nat × sp3)} : bs_K (bs_su S v) w = bs_su (bs_K S w) v := rfl
theorem bg_K_wa {v : Nat → Nat} : b_K (bs_wa S v) = b_K S := rfl
theorem bsc_K_wa {v : Nat → Nat} {w : List (Nat × sp3)} : bs_K (bs_wa S v) w = bs_wa (bs_K S w) v := rfl
theorem bg_K_en {v : Nat → Bool} : b_K (bs_en S v) = b_K S := rfl
theorem bsc_K_en {v : Nat → Bool} {w : List (Nat × sp3)} : bs_K (bs_en S v) w = bs_en (bs_K S w) v := rfl
theorem bg_K_N {v : List (Nat × Int32 × Int32 × Int32)} : b_K (bs_N S v) = b_K S := rfl
theorem bsc_K_N {v : List (Nat × Int32 × Int32 × Int32)} {w : List (Nat × sp3)} : bs_K (bs_N S v) w = bs_N (bs_K S w) v := rfl
theorem bg_K_cn {v : Nat → Nat} : b_K (bs_cn S v) = b_K S := rfl
theorem bsc_K_cn {v : Nat → Nat} {w : List (Nat × sp3)} : bs_K (bs_cn S v) w = bs_cn (bs_K S w) v := rfl
theorem bg_K_of {v : List Nat} : b_K (bs_of S v) = b_K S := rfl
theorem bsc_K_of {v : List Nat} {w : List (Nat × sp3)} : bs_K (bs_of S v) w = bs_of (bs_K S w) v := rfl
theorem bg_K_nd {v : List Nat} : b_K (bs_nd S v) = b_K S := rfl
theorem bsc_K_nd {v : List Nat} {w : List (Nat × sp3)} : bs_K (bs_nd S v) w = bs_nd (bs_K S w) v := rfl
theorem bg_K_pf {v : List (Nat × sp3)} : b_K (bs_pf S v) = b_K S := rfl
theorem bsc_K_pf {v : List (Nat × sp3)} {w : List (Nat × sp3)} : bs_K (bs_pf S v) w = bs_pf (bs_K S w) v := rfl
theorem bss_su {u v : Nat → Nat} : bs_su (bs_su S v) u = bs_su S u := rfl
theorem bsi_su : bs_su S (b_su S) = S := rfl
theorem bg_su {v : Nat → Nat} : b_su (bs_su S v) = v := rfl
theorem bg_su_n {v : Nat} : b_su (bs_n S v) = b_su S := rfl
theorem bg_su_g {v : Nat → Nat} : b_su (bs_g S v) = b_su S := rfl
theorem bg_su_s {v : Nat} : b_su (bs_s S v) = b_su S := rfl
theorem bg_su_T {v : Nat → List Nat} : b_su (bs_T S v) = b_su S := rfl
theorem bg_su_H {v : Nat → List Nat} : b_su (bs_H S v) = b_su S := rfl
theorem bg_su_Q {v : Nat → List Nat} : b_su (bs_Q S v) = b_su S := rfl
theorem bg_su_K {v : List (Nat × sp3)} : b_su (bs_K S v) = b_su S := rfl
theorem bg_su_wa {v : Nat → Nat} : b_su (bs_wa S v) = b_su S := rfl
theorem bsc_su_wa {v : Nat → Nat} {w : Nat → Nat} : bs_su (bs_wa S v) w = bs_wa (bs_su S w) v := rfl
theorem bg_su_en {v : Nat → Bool} : b_su (bs_en S v) = b_su S := rfl
theorem bsc_su_en {v : Nat → Bool} {w : Nat → Nat} : bs_su (bs_en S v) w = bs_en (bs_su S w) v := rfl
theorem bg_su_N {v : List (Nat × Int32 × Int32 × Int32)} : b_su (bs_N S v) = b_su S := rfl
theorem bsc_su_N {v : List (Nat × Int32 × Int32 × Int32)} {w : Nat → Nat} : bs_su (bs_N S v) w = bs_N (bs_su S w) v := rfl
theorem bg_su_cn {v : Nat → Nat} : b_su (bs_cn S v) = b_su S := rfl
theorem bsc_su_cn {v : Nat → Nat} {w : Nat → Nat} : bs_su (bs_cn S v) w = bs_cn (bs_su S w) v := rfl
theorem bg_su_of {v : List Nat} : b_su (bs_of S v) = b_su S := rfl
theorem bsc_su_of {v : List Nat} {w : Nat → Nat} : bs_su (bs_of S v) w = bs_of (bs_su S w) v := rfl
theorem bg_su_nd {v : List Nat} : b_su (bs_nd S v) = b_su S := rfl
theorem bsc_su_nd {v : List Nat} {w : Nat → Nat} : bs_su (bs_nd S v) w = bs_nd (bs_su S w) v := rfl
theorem bg_su_pf {v : List (Nat × sp3)} : b_su (bs_pf S v) = b_su S := rfl
theorem bsc_su_pf {v : List (Nat × sp3)} {w : Nat → Nat} : bs_su (bs_pf S v) w = bs_pf (bs_su S w) v := rfl
theorem bss_wa {u v : Nat → Nat} : bs_wa (bs_wa S v) u = bs_wa S u := rfl
theorem bsi_wa : bs_wa S (b_wa S) = S := rfl
theorem bg_wa {v : Nat → Nat} : b_wa (bs_wa S v) = v := rfl
theorem bg_wa_n {v : Nat} : b_wa (bs_n S v) = b_wa S := rfl
theorem bg_wa_g {v : Nat → Nat} : b_wa (bs_g S v) = b_wa S := rfl
theorem bg_wa_s {v : Nat} : b_wa (bs_s S v) = b_wa S := rfl
theorem bg_wa_T {v : Nat → List Nat} : b_wa (bs_T S v) = b_wa S := rfl
theorem bg_wa_H {v : Nat → List Nat} : b_wa (bs_H S v) = b_wa S := rfl
theorem bg_wa_Q {v : Nat → List Nat} : b_wa (bs_Q S v) = b_wa S := rfl
theorem bg_wa_K {v : List (Nat × sp3)} : b_wa (bs_K S v) = b_wa S := rfl
theorem bg_wa_su {v : Nat → Nat} : b_wa (bs_su S v) = b_wa S := rfl
theorem bg_wa_en {v : Nat → Bool} : b_wa (bs_en S v) = b_wa S := rfl
theorem bsc_wa_en {v : Nat → Bool} {w : Nat → Nat} : bs_wa (bs_en S v) w = bs_en (bs_wa S w) v := rfl
theorem bg_wa_N {v : List (Nat × Int32 × Int32 × Int32)} : b_wa (bs_N S v) = b_wa S := rfl
theorem bsc_wa_N {v : List (Nat × Int32 × Int32 × Int32)} {w : Nat → Nat} : bs_wa (bs_N S v) w = bs_N (bs_wa S w) v := rfl
theorem bg_wa_cn {v : Nat → Nat} : b_wa (bs_cn S v) = b_wa S := rfl
theorem bsc_wa_cn {v : Nat → Nat} {w : Nat → Nat} : bs_wa (bs_cn S v) w = bs_cn (bs_wa S w) v := rfl
theorem bg_wa_of {v : List Nat} : b_wa (bs_of S v) = b_wa S := rfl
theorem bsc_wa_of {v : List Nat} {w : Nat → Nat} : bs_wa (bs_of S v) w = bs_of (bs_wa S w) v := rfl
theorem bg_wa_nd {v : List Nat} : b_wa (bs_nd S v) = b_wa S := rfl
theorem bsc_wa_nd {v : List Nat} {w : Nat → Nat} : bs_wa (bs_nd S v) w = bs_nd (bs_wa S w) v := rfl
theorem bg_wa_pf {v : List (Nat × sp3)} : b_wa (bs_pf S v) = b_wa S := rfl
theorem bsc_wa_pf {v : List (Nat × sp3)} {w : Nat → Nat} : bs_wa (bs_pf S v) w = bs_pf (bs_wa S w) v := rfl
theorem bss_en {u v : Nat → Bool} : bs_en (bs_en S v) u = bs_en S u := rfl
theorem bsi_en : bs_en S (b_en S) = S := rfl
theorem bg_en {v : Nat → Bool} : b_en (bs_en S v) = v := rfl
theorem bg_en_n {v : Nat} : b_en (bs_n S v) = b_en S := rfl
theorem bg_en_g {v : Nat → Nat} : b_en (bs_g S v) = b_en S := rfl
theorem bg_en_s {v : Nat} : b_en (bs_s S v) = b_en S := rfl
theorem bg_en_T {v : Nat → List Nat} : b_en (bs_T S v) = b_en S := rfl
theorem bg_en_H {v : Nat → List Nat} : b_en (bs_H S v) = b_en S := rfl
theorem bg_en_Q {v : Nat → List Nat} : b_en (bs_Q S v) = b_en S := rfl
theorem bg_en_K {v : List (Nat × sp3)} : b_en (bs_K S v) = b_en S := rfl
theorem bg_en_su {v : Nat → Nat} : b_en (bs_su S v) = b_en S := rfl
theorem bg_en_wa {v : Nat → Nat} : b_en (bs_wa S v) = b_en S := rfl
theorem bg_en_N {v : List (Nat × Int32 × Int32 × Int32)} : b_en (bs_N S v) = b_en S := rfl
theorem bsc_en_N {v : List (Nat × Int32 × Int32 × Int32)} {w : Nat → Bool} : bs_en (bs_N S v) w = bs_N (bs_en S w) v := rfl
theorem bg_en_cn {v : Nat → Nat} : b_en (bs_cn S v) = b_en S := rfl
theorem bsc_en_cn {v : Nat → Nat} {w : Nat → Bool} : bs_en (bs_cn S v) w = bs_cn (bs_en S w) v := rfl
theorem bg_en_of {v : List Nat} : b_en (bs_of S v) = b_en S := rfl
theorem bsc_en_of {v : List Nat} {w : Nat → Bool} : bs_en (bs_of S v) w = bs_of (bs_en S w) v := rfl
theorem bg_en_nd {v : List Nat} : b_en (bs_nd S v) = b_en S := rfl
theorem bsc_en_nd {v : List Nat} {w : Nat → Bool} : bs_en (bs_nd S v) w = bs_nd (bs_en S w) v := rfl
theorem bg_en_pf {v : List (Nat × sp3)} : b_en (bs_pf S v) = b_en S := rfl
theorem bsc_en_pf {v : List (Nat × sp3)} {w : Nat → Bool} : bs_en (bs_pf S v) w = bs_pf (bs_en S w) v := rfl
theorem bss_N {u v : List (Nat × Int32 × Int32 × Int32)} : bs_N (bs_N S v) u = bs_N S u := rfl
theorem bsi_N : bs_N S (b_N S) = S := rfl
theorem bg_N {v : List (Nat × Int32 × Int32 × Int32)} : b_N (bs_N S v) = v := rfl
theorem bg_N_n {v : Nat} : b_N (bs_n S v) = b_N S := rfl
theorem bg_N_g {v : Nat → Nat} : b_N (bs_g S v) = b_N S := rfl
theorem bg_N_s {v : Nat} : b_N (bs_s S v) = b_N S := rfl
theorem bg_N_T {v : Nat → List Nat} : b_N (bs_T S v) = b_N S := rfl
theorem bg_N_H {v : Nat → List Nat} : b_N (bs_H S v) = b_N S := rfl
theorem bg_N_Q {v : Nat → List Nat} : b_N (bs_Q S v) = b_N S := rfl
theorem bg_N_K {v : List (Nat × sp3)} : b_N (bs_K S v) = b_N S := rfl
theorem bg_N_su {v : Nat → Nat} : b_N (bs_su S v) = b_N S := rfl
theorem bg_N_wa {v : Nat → Nat} : b_N (bs_wa S v) = b_N S := rfl
theorem bg_N_en {v : Nat → Bool} : b_N (bs_en S v) = b_N S := rfl
theorem bg_N_cn {v : Nat → Nat} : b_N (bs_cn S v) = b_N S := rfl
theorem bsc_N_cn {v : Nat → Nat} {w : List (Nat × Int32 × Int32 × Int32)} : bs_N (bs_cn S v) w = bs_cn (bs_N S w) v := rfl
theorem bg_N_of {v : List Nat} : b_N (bs_of S v) = b_N S := rfl
theorem bsc_N_of {v : List Nat} {w : List (Nat × Int32 × Int32 × Int32)} : bs_N (bs_of S v) w = bs_of (bs_N S w) v := rfl
theorem bg_N_nd {v : List Nat} : b_N (bs_nd S v) = b_N S := rfl
theorem bsc_N_nd {v : List Nat} {w : List (Nat × Int32 × Int32 × Int32)} : bs_N (bs_nd S v) w = bs_nd (bs_N S w) v := rfl
theorem bg_N_pf {v : List (Nat × sp3)} : b_N (bs_pf S v) = b_N S := rfl
theorem bsc_N_pf {v : List (Nat × sp3)} {w : List (Nat × Int32 × Int32 × Int32)} : bs_N (bs_pf S v) w = bs_pf (bs_N S w) v := rfl
theorem bss_cn {u v : Nat → Nat} : bs_cn (bs_cn S v) u = bs_cn S u := rfl
theorem bsi_cn : bs_cn S (b_cn S) = S := rfl
theorem bg_cn {v : Nat → Nat} : b_cn (bs_cn S v) = v := rfl
theorem bg_cn_n {v : Nat} : b_cn (bs_n S v) = b_cn S := rfl
theorem bg_cn_g {v : Nat → Nat} : b_cn (bs_g S v) = b_cn S := rfl
theorem bg_cn_s {v : Nat} : b_cn (bs_s S v) = b_cn S := rfl
theorem bg_cn_T {v : Nat → List Nat} : b_cn (bs_T S v) = b_cn S := rfl
theorem bg_cn_H {v : Nat → List Nat} : b_cn (bs_H S v) = b_cn S := rfl
theorem bg_cn_Q {v : Nat → List Nat} : b_cn (bs_Q S v) = b_cn S := rfl
theorem bg_cn_K {v : List (Nat × sp3)} : b_cn (bs_K S v) = b_cn S := rfl
theorem bg_cn_su {v : Nat → Nat} : b_cn (bs_su S v) = b_cn S := rfl
theorem bg_cn_wa {v : Nat → Nat} : b_cn (bs_wa S v) = b_cn S := rfl
theorem bg_cn_en {v : Nat → Bool} : b_cn (bs_en S v) = b_cn S := rfl
theorem bg_cn_N {v : List (Nat × Int32 × Int32 × Int32)} : b_cn (bs_N S v) = b_cn S := rfl
theorem bg_cn_of {v : List Nat} : b_cn (bs_of S v) = b_cn S := rfl
theorem bsc_cn_of {v : List Nat} {w : Nat → Nat} : bs_cn (bs_of S v) w = bs_of (bs_cn S w) v := rfl
theorem bg_cn_nd {v : List Nat} : b_cn (bs_nd S v) = b_cn S := rfl
theorem bsc_cn_nd {v : List Nat} {w : Nat → Nat} : bs_cn (bs_nd S v) w = bs_nd (bs_cn S w) v := rfl
theorem bg_cn_pf {v : List (Nat × sp3)} : b_cn (bs_pf S v) = b_cn S := rfl
theorem bsc_cn_pf {v : List (Nat × sp3)} {w : Nat → Nat} : bs_cn (bs_pf S v) w = bs_pf (bs_cn S w) v := rfl
theorem bss_of {u v : List Nat} : bs_of (bs_of S v) u = bs_of S u := rfl
theorem bsi_of : bs_of S (b_of S) = S := rfl
theorem bg_of {v : List Nat} : b_of (bs_of S v) = v := rfl
theorem bg_of_n {v : Nat} : b_of (bs_n S v) = b_of S := rfl
theorem bg_of_g {v : Nat → Nat} : b_of (bs_g S v) = b_of S := rfl
theorem bg_of_s {v : Nat} : b_of (bs_s S v) = b_of S := rfl
theorem bg_of_T {v : Nat → List Nat} : b_of (bs_T S v) = b_of S := rfl
theorem bg_of_H {v : Nat → List Nat} : b_of (bs_H S v) = b_of S := rfl
theorem bg_of_Q {v : Nat → List Nat} : b_of (bs_Q S v) = b_of S := rfl
theorem bg_of_K {v : List (Nat × sp3)} : b_of (bs_K S v) = b_of S := rfl
theorem bg_of_su {v : Nat → Nat} : b_of (bs_su S v) = b_of S := rfl
theorem bg_of_wa {v : Nat → Nat} : b_of (bs_wa S v) = b_of S := rfl
theorem bg_of_en {v : Nat → Bool} : b_of (bs_en S v) = b_of S := rfl
theorem bg_of_N {v : List (Nat × Int32 × Int32 × Int32)} : b_of (bs_N S v) = b_of S := rfl
theorem bg_of_cn {v : Nat → Nat} : b_of (bs_cn S v) = b_of S := rfl
theorem bg_of_nd {v : List Nat} : b_of (bs_nd S v) = b_of S := rfl
theorem bsc_of_nd {v : List Nat} {w : List Nat} : bs_of (bs_nd S v) w = bs_nd (bs_of S w) v := rfl
theorem bg_of_pf {v : List (Nat × sp3)} : b_of (bs_pf S v) = b_of S := rfl
theorem bsc_of_pf {v : List (Nat × sp3)} {w : List Nat} : bs_of (bs_pf S v) w = bs_pf (bs_of S w) v := rfl
theorem bss_nd {u v : List Nat} : bs_nd (bs_nd S v) u = bs_nd S u := rfl
theorem bsi_nd : bs_nd S (b_nd S) = S := rfl
theorem bg_nd {v : List Nat} : b_nd (bs_nd S v) = v := rfl
theorem bg_nd_n {v : Nat} : b_nd (bs_n S v) = b_nd S := rfl
theorem bg_nd_g {v : Nat → Nat} : b_nd (bs_g S v) = b_nd S := rfl
theorem bg_nd_s {v : Nat} : b_nd (bs_s S v) = b_nd S := rfl
theorem bg_nd_T {v : Nat → List Nat} : b_nd (bs_T S v) = b_nd S := rfl
theorem bg_nd_H {v : Nat → List Nat} : b_nd (bs_H S v) = b_nd S := rfl
theorem bg_nd_Q {v : Nat → List Nat} : b_nd (bs_Q S v) = b_nd S := rfl
theorem bg_nd_K {v : List (Nat × sp3)} : b_nd (bs_K S v) = b_nd S := rfl
theorem bg_nd_su {v : Nat → Nat} : b_nd (bs_su S v) = b_nd S := rfl
theorem bg_nd_wa {v : Nat → Nat} : b_nd (bs_wa S v) = b_nd S := rfl
theorem bg_nd_en {v : Nat → Bool} : b_nd (bs_en S v) = b_nd S := rfl
theorem bg_nd_N {v : List (Nat × Int32 × Int32 × Int32)} : b_nd (bs_N S v) = b_nd S := rfl
theorem bg_nd_cn {v : Nat → Nat} : b_nd (bs_cn S v) = b_nd S := rfl
theorem bg_nd_of {v : List Nat} : b_nd (bs_of S v) = b_nd S := rfl
theorem bg_nd_pf {v : List (Nat × sp3)} : b_nd (bs_pf S v) = b_nd S := rfl
theorem bsc_nd_pf {v : List (Nat × sp3)} {w : List Nat} : bs_nd (bs_pf S v) w = bs_pf (bs_nd S w) v := rfl
theorem bss_pf {u v : List (Nat × sp3)} : bs_pf (bs_pf S v) u = bs_pf S u := rfl
theorem bsi_pf : bs_pf S (b_pf S) = S := rfl
theorem bg_pf {v : List (Nat × sp3)} : b_pf (bs_pf S v) = v := rfl
theorem bg_pf_n {v : Nat} : b_pf (bs_n S v) = b_pf S := rfl
theorem bg_pf_g {v : Nat → Nat} : b_pf (bs_g S v) = b_pf S := rfl
theorem bg_pf_s {v : Nat} : b_pf (bs_s S v) = b_pf S := rfl
theorem bg_pf_T {v : Nat → List Nat} : b_pf (bs_T S v) = b_pf S := rfl
theorem bg_pf_H {v : Nat → List Nat} : b_pf (bs_H S v) = b_pf S := rfl
theorem bg_pf_Q {v : Nat → List Nat} : b_pf (bs_Q S v) = b_pf S := rfl
theorem bg_pf_K {v : List (Nat × sp3)} : b_pf (bs_K S v) = b_pf S := rfl
theorem bg_pf_su {v : Nat → Nat} : b_pf (bs_su S v) = b_pf S := rfl
theorem bg_pf_wa {v : Nat → Nat} : b_pf (bs_wa S v) = b_pf S := rfl
theorem bg_pf_en {v : Nat → Bool} : b_pf (bs_en S v) = b_pf S := rfl
theorem bg_pf_N {v : List (Nat × Int32 × Int32 × Int32)} : b_pf (bs_N S v) = b_pf S := rfl
theorem bg_pf_cn {v : Nat → Nat} : b_pf (bs_cn S v) = b_pf S := rfl
theorem bg_pf_of {v : List Nat} : b_pf (bs_of S v) = b_pf S := rfl
theorem bg_pf_nd {v : List Nat} : b_pf (bs_nd S v) = b_pf S := rfl
end
