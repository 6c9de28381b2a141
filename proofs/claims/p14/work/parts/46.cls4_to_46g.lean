section
/-! contracts: the class: images -/
def kk_n_image0 : sx_K := (127, 3, [(10, 0, 0, 8), (6, 0, 0, 15), (8, 0, 0, 1), (13, 24, 24, 0), (13, 24, 24, 2), (13, 24, 24, 0), (13, 24, 24, 0), (13, 8, 8, 3), (13, 8, 8, 0), (13, 8, 8, 0), (13, 8, 8, 0), (13, 6, 6, 0), (13, 6, 6, 0), (13, 6, 6, 0), (13, 24, 24, 0), (13, 24, 24, 0), (15, 24, 24, 0), (13, 8, 8, 0), (17, 4, 4, 0), (6, 0, 0, 15), (8, 0, 0, 1), (13, 24, 24, 0), (13, 24, 24, 2), (13, 24, 24, 0), (13, 24, 24, 0), (13, 8, 8, 3), (13, 8, 8, 0), (13, 8, 8, 0), (13, 8, 8, 0), (13, 6, 6, 0), (13, 6, 6, 0), (13, 6, 6, 0), (13, 24, 24, 0), (13, 24, 24, 0), (15, 24, 24, 0), (13, 8, 8, 0)], ([(19, 1, 6), (20, 0, 4), (21, 0, 2147483647), (22, 0, 2147483647), (23, 0, 2147483647), (24, 0, 2147483647), (25, 0, 2147483647), (26, 0, 2147483647), (27, 0, 2147483647), (28, 0, 2147483647), (29, 0, 2147483647), (30, 0, 2147483647), (31, 0, 2147483647), (32, 0, 2147483647), (33, 0, 2147483647), (34, 0, 2147483647), (35, 0, 2147483647)], []), [(2, 0, (0, [])), (0, 0, (0, []))], ([((1, (6, [])), (0, [(0, 1)])), ((19, (6, [])), (0, [(1, 1)]))], [((0, (7, [])), 2), ((0, (9, [])), 19), ((1, (0, [])), 3), ((2, (5, [])), 4), ((2, (6, [])), 5), ((2, (7, [])), 6), ((2, (8, [])), 7), ((2, (9, [])), 8), ((2, (10, [])), 9), ((2, (11, [])), 10), ((2, (12, [])), 11), ((1, (7, [])), 12), ((1, (8, [])), 13), ((1, (9, [])), 14), ((1, (10, [])), 15), ((1, (11, [])), 16), ((1, (12, [])), 17), ((1, (13, [])), 18), ((18, (0, [])), 20), ((19, (0, [])), 21), ((20, (5, [])), 22), ((20, (6, [])), 23), ((20, (7, [])), 24), ((20, (8, [])), 25), ((20, (9, [])), 26), ((20, (10, [])), 27), ((20, (11, [])), 28), ((20, (12, [])), 29), ((19, (7, [])), 30), ((19, (8, [])), 31), ((19, (9, [])), 32), ((19, (10, [])), 33), ((19, (11, [])), 34), ((19, (12, [])), 35), ((19, (13, [])), 36)], ([(0, (-2147483648), 2147483647), (1, (-2147483648), 2147483647)], []), 2), [(some (0, 0, (0, [(2, 1)])), ([((1, (6, [])), (0, [(0, 1)])), ((19, (6, [])), (0, [(0, 1)]))], [], ([(2, (-2147483648), 2147483647)], []), 3))])
def kh_n_image0 : List (sx_A × sx_L) := []
def kk_n_back0 : sx_K := (128, 3, [(10, 0, 0, 8), (6, 0, 0, 15), (8, 0, 0, 1), (13, 24, 24, 0), (13, 24, 24, 2), (13, 24, 24, 0), (13, 24, 24, 0), (13, 8, 8, 3), (13, 8, 8, 0), (13, 8, 8, 0), (13, 8, 8, 0), (13, 6, 6, 0), (13, 6, 6, 0), (13, 6, 6, 0), (13, 24, 24, 0), (13, 24, 24, 0), (15, 24, 24, 0), (13, 8, 8, 0), (17, 4, 4, 0), (6, 0, 0, 15), (8, 0, 0, 1), (13, 24, 24, 0), (13, 24, 24, 2), (13, 24, 24, 0), (13, 24, 24, 0), (13, 8, 8, 3), (13, 8, 8, 0), (13, 8, 8, 0), (13, 8, 8, 0), (13, 6, 6, 0), (13, 6, 6, 0), (13, 6, 6, 0), (13, 24, 24, 0), (13, 24, 24, 0), (15, 24, 24, 0), (13, 8, 8, 0)], ([(1, 1, 6), (2, 0, 4), (3, 0, 2147483647), (4, 0, 2147483647), (5, 0, 2147483647), (6, 0, 2147483647), (7, 0, 2147483647), (8, 0, 2147483647), (9, 0, 2147483647), (10, 0, 2147483647), (11, 0, 2147483647), (12, 0, 2147483647), (13, 0, 2147483647), (14, 0, 2147483647), (15, 0, 2147483647), (16, 0, 2147483647), (17, 0, 2147483647)], []), [(2, 0, (0, [])), (0, 0, (0, []))], ([((1, (6, [])), (0, [(0, 1)])), ((19, (6, [])), (0, [(1, 1)]))], [((0, (7, [])), 2), ((0, (9, [])), 19), ((1, (0, [])), 3), ((2, (5, [])), 4), ((2, (6, [])), 5), ((2, (7, [])), 6), ((2, (8, [])), 7), ((2, (9, [])), 8), ((2, (10, [])), 9), ((2, (11, [])), 10), ((2, (12, [])), 11), ((1, (7, [])), 12), ((1, (8, [])), 13), ((1, (9, [])), 14), ((1, (10, [])), 15), ((1, (11, [])), 16), ((1, (12, [])), 17), ((1, (13, [])), 18), ((18, (0, [])), 20), ((19, (0, [])), 21), ((20, (5, [])), 22), ((20, (6, [])), 23), ((20, (7, [])), 24), ((20, (8, [])), 25), ((20, (9, [])), 26), ((20, (10, [])), 27), ((20, (11, [])), 28), ((20, (12, [])), 29), ((19, (7, [])), 30), ((19, (8, [])), 31), ((19, (9, [])), 32), ((19, (10, [])), 33), ((19, (11, [])), 34), ((19, (12, [])), 35), ((19, (13, [])), 36)], ([(0, (-2147483648), 2147483647), (1, (-2147483648), 2147483647)], []), 2), [(some (0, 0, (0, [(2, 1)])), ([((1, (6, [])), (0, [(1, 1)])), ((19, (6, [])), (0, [(1, 1)]))], [], ([(2, (-2147483648), 2147483647)], []), 3))])
def kh_n_back0 : List (sx_A × sx_L) := []
def kk_n_back0N : sx_K := (128, 0, [(10, 0, 0, 8), (6, 0, 0, 15), (17, 4, 4, 0)], ([], []), [(2, 0, (0, [])), (0, 0, (0, []))], ([((1, (6, [])), (0, [(0, 1)]))], [((0, (7, [])), 2), ((0, (9, [])), 3), ((2, (0, [])), 0)], ([(0, (-2147483648), 2147483647)], []), 1), [(some (0, 0, ((-1), [])), ([((1, (6, [])), (0, [(0, 1)]))], [], ([], []), 1))])
def kh_n_back0N : List (sx_A × sx_L) := []
def kk_n_image1 : sx_K := (127, 3, [(10, 0, 0, 8), (6, 0, 0, 15), (8, 0, 0, 1), (13, 24, 24, 0), (13, 24, 24, 2), (13, 24, 24, 0), (13, 24, 24, 0), (13, 8, 8, 3), (13, 8, 8, 0), (13, 8, 8, 0), (13, 8, 8, 0), (13, 6, 6, 0), (13, 6, 6, 0), (13, 6, 6, 0), (13, 24, 24, 0), (13, 24, 24, 0), (15, 24, 24, 0), (13, 8, 8, 0), (17, 4, 4, 0), (6, 0, 0, 15), (8, 0, 0, 1), (13, 24, 24, 0), (13, 24, 24, 2), (13, 24, 24, 0), (13, 24, 24, 0), (13, 8, 8, 3), (13, 8, 8, 0), (13, 8, 8, 0), (13, 8, 8, 0), (13, 6, 6, 0), (13, 6, 6, 0), (13, 6, 6, 0), (13, 24, 24, 0), (13, 24, 24, 0), (15, 24, 24, 0), (13, 8, 8, 0)], ([(19, 1, 6), (20, 0, 4), (21, 0, 2147483647), (22, 0, 2147483647), (23, 0, 2147483647), (24, 0, 2147483647), (25, 0, 2147483647), (26, 0, 2147483647), (27, 0, 2147483647), (28, 0, 2147483647), (29, 0, 2147483647), (30, 0, 2147483647), (31, 0, 2147483647), (32, 0, 2147483647), (33, 0, 2147483647), (34, 0, 2147483647), (35, 0, 2147483647)], []), [(2, 0, (0, [])), (0, 0, (1, []))], ([((1, (6, [])), (0, [(0, 1)])), ((19, (6, [])), (0, [(1, 1)]))], [((0, (7, [])), 2), ((0, (9, [])), 19), ((1, (0, [])), 3), ((2, (5, [])), 4), ((2, (6, [])), 5), ((2, (7, [])), 6), ((2, (8, [])), 7), ((2, (9, [])), 8), ((2, (10, [])), 9), ((2, (11, [])), 10), ((2, (12, [])), 11), ((1, (7, [])), 12), ((1, (8, [])), 13), ((1, (9, [])), 14), ((1, (10, [])), 15), ((1, (11, [])), 16), ((1, (12, [])), 17), ((1, (13, [])), 18), ((18, (1, [])), 20), ((19, (0, [])), 21), ((20, (5, [])), 22), ((20, (6, [])), 23), ((20, (7, [])), 24), ((20, (8, [])), 25), ((20, (9, [])), 26), ((20, (10, [])), 27), ((20, (11, [])), 28), ((20, (12, [])), 29), ((19, (7, [])), 30), ((19, (8, [])), 31), ((19, (9, [])), 32), ((19, (10, [])), 33), ((19, (11, [])), 34), ((19, (12, [])), 35), ((19, (13, [])), 36)], ([(0, (-2147483648), 2147483647), (1, (-2147483648), 2147483647)], []), 2), [(some (0, 0, (0, [(2, 1)])), ([((1, (6, [])), (0, [(0, 1)])), ((19, (6, [])), (0, [(0, 1)]))], [], ([(2, (-2147483648), 2147483647)], []), 3))])
def kh_n_image1 : List (sx_A × sx_L) := []
def kk_n_back1 : sx_K := (128, 3, [(10, 0, 0, 8), (6, 0, 0, 15), (8, 0, 0, 1), (13, 24, 24, 0), (13, 24, 24, 2), (13, 24, 24, 0), (13, 24, 24, 0), (13, 8, 8, 3), (13, 8, 8, 0), (13, 8, 8, 0), (13, 8, 8, 0), (13, 6, 6, 0), (13, 6, 6, 0), (13, 6, 6, 0), (13, 24, 24, 0), (13, 24, 24, 0), (15, 24, 24, 0), (13, 8, 8, 0), (17, 4, 4, 0), (6, 0, 0, 15), (8, 0, 0, 1), (13, 24, 24, 0), (13, 24, 24, 2), (13, 24, 24, 0), (13, 24, 24, 0), (13, 8, 8, 3), (13, 8, 8, 0), (13, 8, 8, 0), (13, 8, 8, 0), (13, 6, 6, 0), (13, 6, 6, 0), (13, 6, 6, 0), (13, 24, 24, 0), (13, 24, 24, 0), (15, 24, 24, 0), (13, 8, 8, 0)], ([(1, 1, 6), (2, 0, 4), (3, 0, 2147483647), (4, 0, 2147483647), (5, 0, 2147483647), (6, 0, 2147483647), (7, 0, 2147483647), (8, 0, 2147483647), (9, 0, 2147483647), (10, 0, 2147483647), (11, 0, 2147483647), (12, 0, 2147483647), (13, 0, 2147483647), (14, 0, 2147483647), (15, 0, 2147483647), (16, 0, 2147483647), (17, 0, 2147483647)], []), [(2, 0, (0, [])), (0, 0, (1, []))], ([((1, (6, [])), (0, [(0, 1)])), ((19, (6, [])), (0, [(1, 1)]))], [((0, (7, [])), 2), ((0, (9, [])), 19), ((1, (0, [])), 3), ((2, (5, [])), 4), ((2, (6, [])), 5), ((2, (7, [])), 6), ((2, (8, [])), 7), ((2, (9, [])), 8), ((2, (10, [])), 9), ((2, (11, [])), 10), ((2, (12, [])), 11), ((1, (7, [])), 12), ((1, (8, [])), 13), ((1, (9, [])), 14), ((1, (10, [])), 15), ((1, (11, [])), 16), ((1, (12, [])), 17), ((1, (13, [])), 18), ((18, (1, [])), 20), ((19, (0, [])), 21), ((20, (5, [])), 22), ((20, (6, [])), 23), ((20, (7, [])), 24), ((20, (8, [])), 25), ((20, (9, [])), 26), ((20, (10, [])), 27), ((20, (11, [])), 28), ((20, (12, [])), 29), ((19, (7, [])), 30), ((19, (8, [])), 31), ((19, (9, [])), 32), ((19, (10, [])), 33), ((19, (11, [])), 34), ((19, (12, [])), 35), ((19, (13, [])), 36)], ([(0, (-2147483648), 2147483647), (1, (-2147483648), 2147483647)], []), 2), [(some (0, 0, (0, [(2, 1)])), ([((1, (6, [])), (0, [(1, 1)])), ((19, (6, [])), (0, [(1, 1)]))], [], ([(2, (-2147483648), 2147483647)], []), 3))])
def kh_n_back1 : List (sx_A × sx_L) := []
def kk_n_back1N : sx_K := (128, 0, [(10, 0, 0, 8), (6, 0, 0, 15), (17, 4, 4, 0)], ([], []), [(2, 0, (0, [])), (0, 0, (1, []))], ([((1, (6, [])), (0, [(0, 1)]))], [((0, (7, [])), 2), ((0, (9, [])), 3), ((2, (1, [])), 0)], ([(0, (-2147483648), 2147483647)], []), 1), [(some (0, 0, ((-1), [])), ([((1, (6, [])), (0, [(0, 1)]))], [], ([], []), 1))])
def kh_n_back1N : List (sx_A × sx_L) := []
def kk_n_image2 : sx_K := (127, 3, [(10, 0, 0, 8), (6, 0, 0, 15), (8, 0, 0, 1), (13, 24, 24, 0), (13, 24, 24, 2), (13, 24, 24, 0), (13, 24, 24, 0), (13, 8, 8, 3), (13, 8, 8, 0), (13, 8, 8, 0), (13, 8, 8, 0), (13, 6, 6, 0), (13, 6, 6, 0), (13, 6, 6, 0), (13, 24, 24, 0), (13, 24, 24, 0), (15, 24, 24, 0), (13, 8, 8, 0), (17, 4, 4, 0), (6, 0, 0, 15), (8, 0, 0, 1), (13, 24, 24, 0), (13, 24, 24, 2), (13, 24, 24, 0), (13, 24, 24, 0), (13, 8, 8, 3), (13, 8, 8, 0), (13, 8, 8, 0), (13, 8, 8, 0), (13, 6, 6, 0), (13, 6, 6, 0), (13, 6, 6, 0), (13, 24, 24, 0), (13, 24, 24, 0), (15, 24, 24, 0), (13, 8, 8, 0)], ([(19, 1, 6), (20, 0, 4), (21, 0, 2147483647), (22, 0, 2147483647), (23, 0, 2147483647), (24, 0, 2147483647), (25, 0, 2147483647), (26, 0, 2147483647), (27, 0, 2147483647), (28, 0, 2147483647), (29, 0, 2147483647), (30, 0, 2147483647), (31, 0, 2147483647), (32, 0, 2147483647), (33, 0, 2147483647), (34, 0, 2147483647), (35, 0, 2147483647)], []), [(2, 0, (0, [])), (0, 0, (2, []))], ([((1, (6, [])), (0, [(0, 1)])), ((19, (6, [])), (0, [(1, 1)]))], [((0, (7, [])), 2), ((0, (9, [])), 19), ((1, (0, [])), 3), ((2, (5, [])), 4), ((2, (6, [])), 5), ((2, (7, [])), 6), ((2, (8, [])), 7), ((2, (9, [])), 8), ((2, (10, [])), 9), ((2, (11, [])), 10), ((2, (12, [])), 11), ((1, (7, [])), 12), ((1, (8, [])), 13), ((1, (9, [])), 14), ((1, (10, [])), 15), ((1, (11, [])), 16), ((1, (12, [])), 17), ((1, (13, [])), 18), ((18, (2, [])), 20), ((19, (0, [])), 21), ((20, (5, [])), 22), ((20, (6, [])), 23), ((20, (7, [])), 24), ((20, (8, [])), 25), ((20, (9, [])), 26), ((20, (10, [])), 27), ((20, (11, [])), 28), ((20, (12, [])), 29), ((19, (7, [])), 30), ((19, (8, [])), 31), ((19, (9, [])), 32), ((19, (10, [])), 33), ((19, (11, [])), 34), ((19, (12, [])), 35), ((19, (13, [])), 36)], ([(0, (-2147483648), 2147483647), (1, (-2147483648), 2147483647)], []), 2), [(some (0, 0, (0, [(2, 1)])), ([((1, (6, [])), (0, [(0, 1)])), ((19, (6, [])), (0, [(0, 1)]))], [], ([(2, (-2147483648), 2147483647)], []), 3))])
def kh_n_image2 : List (sx_A × sx_L) := []
def kk_n_back2 : sx_K := (128, 3, [(10, 0, 0, 8), (6, 0, 0, 15), (8, 0, 0, 1), (13, 24, 24, 0), (13, 24, 24, 2), (13, 24, 24, 0), (13, 24, 24, 0), (13, 8, 8, 3), (13, 8, 8, 0), (13, 8, 8, 0), (13, 8, 8, 0), (13, 6, 6, 0), (13, 6, 6, 0), (13, 6, 6, 0), (13, 24, 24, 0), (13, 24, 24, 0), (15, 24, 24, 0), (13, 8, 8, 0), (17, 4, 4, 0), (6, 0, 0, 15), (8, 0, 0, 1), (13, 24, 24, 0), (13, 24, 24, 2), (13, 24, 24, 0), (13, 24, 24, 0), (13, 8, 8, 3), (13, 8, 8, 0), (13, 8, 8, 0), (13, 8, 8, 0), (13, 6, 6, 0), (13, 6, 6, 0), (13, 6, 6, 0), (13, 24, 24, 0), (13, 24, 24, 0), (15, 24, 24, 0), (13, 8, 8, 0)], ([(1, 1, 6), (2, 0, 4), (3, 0, 2147483647), (4, 0, 2147483647), (5, 0, 2147483647), (6, 0, 2147483647), (7, 0, 2147483647), (8, 0, 2147483647), (9, 0, 2147483647), (10, 0, 2147483647), (11, 0, 2147483647), (12, 0, 2147483647), (13, 0, 2147483647), (14, 0, 2147483647), (15, 0, 2147483647), (16, 0, 2147483647), (17, 0, 2147483647)], []), [(2, 0, (0, [])), (0, 0, (2, []))], ([((1, (6, [])), (0, [(0, 1)])), ((19, (6, [])), (0, [(1, 1)]))], [((0, (7, [])), 2), ((0, (9, [])), 19), ((1, (0, [])), 3), ((2, (5, [])), 4), ((2, (6, [])), 5), ((2, (7, [])), 6), ((2, (8, [])), 7), ((2, (9, [])), 8), ((2, (10, [])), 9), ((2, (11, [])), 10), ((2, (12, [])), 11), ((1, (7, [])), 12), ((1, (8, [])), 13), ((1, (9, [])), 14), ((1, (10, [])), 15), ((1, (11, [])), 16), ((1, (12, [])), 17), ((1, (13, [])), 18), ((18, (2, [])), 20), ((19, (0, [])), 21), ((20, (5, [])), 22), ((20, (6, [])), 23), ((20, (7, [])), 24), ((20, (8, [])), 25), ((20, (9, [])), 26), ((20, (10, [])), 27), ((20, (11, [])), 28), ((20, (12, [])), 29), ((19, (7, [])), 30), ((19, (8, [])), 31), ((19, (9, [])), 32), ((19, (10, [])), 33), ((19, (11, [])), 34), ((19, (12, [])), 35), ((19, (13, [])), 36)], ([(0, (-2147483648), 2147483647), (1, (-2147483648), 2147483647)], []), 2), [(some (0, 0, (0, [(2, 1)])), ([((1, (6, [])), (0, [(1, 1)])), ((19, (6, [])), (0, [(1, 1)]))], [], ([(2, (-2147483648), 2147483647)], []), 3))])
def kh_n_back2 : List (sx_A × sx_L) := []
def kk_n_back2N : sx_K := (128, 0, [(10, 0, 0, 8), (6, 0, 0, 15), (17, 4, 4, 0)], ([], []), [(2, 0, (0, [])), (0, 0, (2, []))], ([((1, (6, [])), (0, [(0, 1)]))], [((0, (7, [])), 2), ((0, (9, [])), 3), ((2, (2, [])), 0)], ([(0, (-2147483648), 2147483647)], []), 1), [(some (0, 0, ((-1), [])), ([((1, (6, [])), (0, [(0, 1)]))], [], ([], []), 1))])
def kh_n_back2N : List (sx_A × sx_L) := []
def kk_n_image3 : sx_K := (127, 3, [(10, 0, 0, 8), (6, 0, 0, 15), (8, 0, 0, 1), (13, 24, 24, 0), (13, 24, 24, 2), (13, 24, 24, 0), (13, 24, 24, 0), (13, 8, 8, 3), (13, 8, 8, 0), (13, 8, 8, 0), (13, 8, 8, 0), (13, 6, 6, 0), (13, 6, 6, 0), (13, 6, 6, 0), (13, 24, 24, 0), (13, 24, 24, 0), (15, 24, 24, 0), (13, 8, 8, 0), (17, 4, 4, 0), (6, 0, 0, 15), (8, 0, 0, 1), (13, 24, 24, 0), (13, 24, 24, 2), (13, 24, 24, 0), (13, 24, 24, 0), (13, 8, 8, 3), (13, 8, 8, 0), (13, 8, 8, 0), (13, 8, 8, 0), (13, 6, 6, 0), (13, 6, 6, 0), (13, 6, 6, 0), (13, 24, 24, 0), (13, 24, 24, 0), (15, 24, 24, 0), (13, 8, 8, 0)], ([(19, 1, 6), (20, 0, 4), (21, 0, 2147483647), (22, 0, 2147483647), (23, 0, 2147483647), (24, 0, 2147483647), (25, 0, 2147483647), (26, 0, 2147483647), (27, 0, 2147483647), (28, 0, 2147483647), (29, 0, 2147483647), (30, 0, 2147483647), (31, 0, 2147483647), (32, 0, 2147483647), (33, 0, 2147483647), (34, 0, 2147483647), (35, 0, 2147483647)], []), [(2, 0, (0, [])), (0, 0, (3, []))], ([((1, (6, [])), (0, [(0, 1)])), ((19, (6, [])), (0, [(1, 1)]))], [((0, (7, [])), 2), ((0, (9, [])), 19), ((1, (0, [])), 3), ((2, (5, [])), 4), ((2, (6, [])), 5), ((2, (7, [])), 6), ((2, (8, [])), 7), ((2, (9, [])), 8), ((2, (10, [])), 9), ((2, (11, [])), 10), ((2, (12, [])), 11), ((1, (7, [])), 12), ((1, (8, [])), 13), ((1, (9, [])), 14), ((1, (10, [])), 15), ((1, (11, [])), 16), ((1, (12, [])), 17), ((1, (13, [])), 18), ((18, (3, [])), 20), ((19, (0, [])), 21), ((20, (5, [])), 22), ((20, (6, [])), 23), ((20, (7, [])), 24), ((20, (8, [])), 25), ((20, (9, [])), 26), ((20, (10, [])), 27), ((20, (11, [])), 28), ((20, (12, [])), 29), ((19, (7, [])), 30), ((19, (8, [])), 31), ((19, (9, [])), 32), ((19, (10, [])), 33), ((19, (11, [])), 34), ((19, (12, [])), 35), ((19, (13, [])), 36)], ([(0, (-2147483648), 2147483647), (1, (-2147483648), 2147483647)], []), 2), [(some (0, 0, (0, [(2, 1)])), ([((1, (6, [])), (0, [(0, 1)])), ((19, (6, [])), (0, [(0, 1)]))], [], ([(2, (-2147483648), 2147483647)], []), 3))])
def kh_n_image3 : List (sx_A × sx_L) := []
def kk_n_back3 : sx_K := (128, 3, [(10, 0, 0, 8), (6, 0, 0, 15), (8, 0, 0, 1), (13, 24, 24, 0), (13, 24, 24, 2), (13, 24, 24, 0), (13, 24, 24, 0), (13, 8, 8, 3), (13, 8, 8, 0), (13, 8, 8, 0), (13, 8, 8, 0), (13, 6, 6, 0), (13, 6, 6, 0), (13, 6, 6, 0), (13, 24, 24, 0), (13, 24, 24, 0), (15, 24, 24, 0), (13, 8, 8, 0), (17, 4, 4, 0), (6, 0, 0, 15), (8, 0, 0, 1), (13, 24, 24, 0), (13, 24, 24, 2), (13, 24, 24, 0), (13, 24, 24, 0), (13, 8, 8, 3), (13, 8, 8, 0), (13, 8, 8, 0), (13, 8, 8, 0), (13, 6, 6, 0), (13, 6, 6, 0), (13, 6, 6, 0), (13, 24, 24, 0), (13, 24, 24, 0), (15, 24, 24, 0), (13, 8, 8, 0)], ([(1, 1, 6), (2, 0, 4), (3, 0, 2147483647), (4, 0, 2147483647), (5, 0, 2147483647), (6, 0, 2147483647), (7, 0, 2147483647), (8, 0, 2147483647), (9, 0, 2147483647), (10, 0, 2147483647), (11, 0, 2147483647), (12, 0, 2147483647), (13, 0, 2147483647), (14, 0, 2147483647), (15, 0, 2147483647), (16, 0, 2147483647), (17, 0, 2147483647)], []), [(2, 0, (0, [])), (0, 0, (3, []))], ([((1, (6, [])), (0, [(0, 1)])), ((19, (6, [])), (0, [(1, 1)]))], [((0, (7, [])), 2), ((0, (9, [])), 19), ((1, (0, [])), 3), ((2, (5, [])), 4), ((2, (6, [])), 5), ((2, (7, [])), 6), ((2, (8, [])), 7), ((2, (9, [])), 8), ((2, (10, [])), 9), ((2, (11, [])), 10), ((2, (12, [])), 11), ((1, (7, [])), 12), ((1, (8, [])), 13), ((1, (9, [])), 14), ((1, (10, [])), 15), ((1, (11, [])), 16), ((1, (12, [])), 17), ((1, (13, [])), 18), ((18, (3, [])), 20), ((19, (0, [])), 21), ((20, (5, [])), 22), ((20, (6, [])), 23), ((20, (7, [])), 24), ((20, (8, [])), 25), ((20, (9, [])), 26), ((20, (10, [])), 27), ((20, (11, [])), 28), ((20, (12, [])), 29), ((19, (7, [])), 30), ((19, (8, [])), 31), ((19, (9, [])), 32), ((19, (10, [])), 33), ((19, (11, [])), 34), ((19, (12, [])), 35), ((19, (13, [])), 36)], ([(0, (-2147483648), 2147483647), (1, (-2147483648), 2147483647)], []), 2), [(some (0, 0, (0, [(2, 1)])), ([((1, (6, [])), (0, [(1, 1)])), ((19, (6, [])), (0, [(1, 1)]))], [], ([(2, (-2147483648), 2147483647)], []), 3))])
def kh_n_back3 : List (sx_A × sx_L) := []
def kk_n_back3N : sx_K := (128, 0, [(10, 0, 0, 8), (6, 0, 0, 15), (17, 4, 4, 0)], ([], []), [(2, 0, (0, [])), (0, 0, (3, []))], ([((1, (6, [])), (0, [(0, 1)]))], [((0, (7, [])), 2), ((0, (9, [])), 3), ((2, (3, [])), 0)], ([(0, (-2147483648), 2147483647)], []), 1), [(some (0, 0, ((-1), [])), ([((1, (6, [])), (0, [(0, 1)]))], [], ([], []), 1))])
def kh_n_back3N : List (sx_A × sx_L) := []
def kk_n_imageL : sx_K := (127, 0, [(10, 0, 0, 8)], ([], []), [(2, 0, (0, [])), (0, 0, (0, [(0, 1)]))], ([], [], ([(0, (-2147483648), (-1))], []), 1), [(some (0, 0, (0, [(1, 1)])), ([], [], ([(1, (-2147483648), 2147483647)], []), 2))])
def kh_n_imageL : List (sx_A × sx_L) := []
def kk_n_imageH : sx_K := (127, 0, [(10, 0, 0, 8)], ([], []), [(2, 0, (0, [])), (0, 0, (0, [(0, 1)]))], ([], [], ([(0, 4, 2147483647)], []), 1), [(some (0, 0, (0, [(1, 1)])), ([], [], ([(1, (-2147483648), 2147483647)], []), 2))])
def kh_n_imageH : List (sx_A × sx_L) := []
def kk_n_backL : sx_K := (128, 0, [(10, 0, 0, 8)], ([], []), [(2, 0, (0, [])), (0, 0, (0, [(0, 1)]))], ([], [], ([(0, (-2147483648), (-1))], []), 1), [(some (0, 0, (0, [(1, 1)])), ([], [], ([(1, (-2147483648), 2147483647)], []), 2))])
def kh_n_backL : List (sx_A × sx_L) := []
def kk_n_backH : sx_K := (128, 0, [(10, 0, 0, 8)], ([], []), [(2, 0, (0, [])), (0, 0, (0, [(0, 1)]))], ([], [], ([(0, 4, 2147483647)], []), 1), [(some (0, 0, (0, [(1, 1)])), ([], [], ([(1, (-2147483648), 2147483647)], []), 2))])
def kh_n_backH : List (sx_A × sx_L) := []
theorem kc_n_image0 : sx_chk (sx_tbs, []) [kk_scopy] kk_n_image0 kh_n_image0 3000 = true := by decide +kernel
theorem ko_n_image0 (X : nt_X) : sx_KOK X (sx_tbs, []) kk_n_image0 := sx_keeps (Ks := [kk_scopy]) (fun K h => by
    rcases List.mem_cons.mp h with e | h
    · rw [e]; exact ko_scopy X
    cases h) kc_n_image0
theorem kc_n_back0 : sx_chk (sx_tbs, []) [kk_scopy] kk_n_back0 kh_n_back0 3000 = true := by decide +kernel
theorem ko_n_back0 (X : nt_X) : sx_KOK X (sx_tbs, []) kk_n_back0 := sx_keeps (Ks := [kk_scopy]) (fun K h => by
    rcases List.mem_cons.mp h with e | h
    · rw [e]; exact ko_scopy X
    cases h) kc_n_back0
theorem kc_n_back0N : sx_chk (sx_tbs, []) [] kk_n_back0N kh_n_back0N 3000 = true := by decide +kernel
theorem ko_n_back0N (X : nt_X) : sx_KOK X (sx_tbs, []) kk_n_back0N := sx_keeps (Ks := []) (fun K h => by cases h) kc_n_back0N
theorem kc_n_image1 : sx_chk (sx_tbs, []) [kk_scopy] kk_n_image1 kh_n_image1 3000 = true := by decide +kernel
theorem ko_n_image1 (X : nt_X) : sx_KOK X (sx_tbs, []) kk_n_image1 := sx_keeps (Ks := [kk_scopy]) (fun K h => by
    rcases List.mem_cons.mp h with e | h
    · rw [e]; exact ko_scopy X
    cases h) kc_n_image1
theorem kc_n_back1 : sx_chk (sx_tbs, []) [kk_scopy] kk_n_back1 kh_n_back1 3000 = true := by decide +kernel
theorem ko_n_back1 (X : nt_X) : sx_KOK X (sx_tbs, []) kk_n_back1 := sx_keeps (Ks := [kk_scopy]) (fun K h => by
    rcases List.mem_cons.mp h with e | h
    · rw [e]; exact ko_scopy X
    cases h) kc_n_back1
theorem kc_n_back1N : sx_chk (sx_tbs, []) [] kk_n_back1N kh_n_back1N 3000 = true := by decide +kernel
theorem ko_n_back1N (X : nt_X) : sx_KOK X (sx_tbs, []) kk_n_back1N := sx_keeps (Ks := []) (fun K h => by cases h) kc_n_back1N
theorem kc_n_image2 : sx_chk (sx_tbs, []) [kk_scopy] kk_n_image2 kh_n_image2 3000 = true := by decide +kernel
theorem ko_n_image2 (X : nt_X) : sx_KOK X (sx_tbs, []) kk_n_image2 := sx_keeps (Ks := [kk_scopy]) (fun K h => by
    rcases List.mem_cons.mp h with e | h
    · rw [e]; exact ko_scopy X
    cases h) kc_n_image2
theorem kc_n_back2 : sx_chk (sx_tbs, []) [kk_scopy] kk_n_back2 kh_n_back2 3000 = true := by decide +kernel
theorem ko_n_back2 (X : nt_X) : sx_KOK X (sx_tbs, []) kk_n_back2 := sx_keeps (Ks := [kk_scopy]) (fun K h => by
    rcases List.mem_cons.mp h with e | h
    · rw [e]; exact ko_scopy X
    cases h) kc_n_back2
theorem kc_n_back2N : sx_chk (sx_tbs, []) [] kk_n_back2N kh_n_back2N 3000 = true := by decide +kernel
theorem ko_n_back2N (X : nt_X) : sx_KOK X (sx_tbs, []) kk_n_back2N := sx_keeps (Ks := []) (fun K h => by cases h) kc_n_back2N
theorem kc_n_image3 : sx_chk (sx_tbs, []) [kk_scopy] kk_n_image3 kh_n_image3 3000 = true := by decide +kernel
theorem ko_n_image3 (X : nt_X) : sx_KOK X (sx_tbs, []) kk_n_image3 := sx_keeps (Ks := [kk_scopy]) (fun K h => by
    rcases List.mem_cons.mp h with e | h
    · rw [e]; exact ko_scopy X
    cases h) kc_n_image3
theorem kc_n_back3 : sx_chk (sx_tbs, []) [kk_scopy] kk_n_back3 kh_n_back3 3000 = true := by decide +kernel
theorem ko_n_back3 (X : nt_X) : sx_KOK X (sx_tbs, []) kk_n_back3 := sx_keeps (Ks := [kk_scopy]) (fun K h => by
    rcases List.mem_cons.mp h with e | h
    · rw [e]; exact ko_scopy X
    cases h) kc_n_back3
theorem kc_n_back3N : sx_chk (sx_tbs, []) [] kk_n_back3N kh_n_back3N 3000 = true := by decide +kernel
theorem ko_n_back3N (X : nt_X) : sx_KOK X (sx_tbs, []) kk_n_back3N := sx_keeps (Ks := []) (fun K h => by cases h) kc_n_back3N
theorem kc_n_imageL : sx_chk (sx_tbs, []) [] kk_n_imageL kh_n_imageL 3000 = true := by decide +kernel
theorem ko_n_imageL (X : nt_X) : sx_KOK X (sx_tbs, []) kk_n_imageL := sx_keeps (Ks := []) (fun K h => by cases h) kc_n_imageL
theorem kc_n_imageH : sx_chk (sx_tbs, []) [] kk_n_imageH kh_n_imageH 3000 = true := by decide +kernel
theorem ko_n_imageH (X : nt_X) : sx_KOK X (sx_tbs, []) kk_n_imageH := sx_keeps (Ks := []) (fun K h => by cases h) kc_n_imageH
theorem kc_n_backL : sx_chk (sx_tbs, []) [] kk_n_backL kh_n_backL 3000 = true := by decide +kernel
theorem ko_n_backL (X : nt_X) : sx_KOK X (sx_tbs, []) kk_n_backL := sx_keeps (Ks := []) (fun K h => by cases h) kc_n_backL
theorem kc_n_backH : sx_chk (sx_tbs, []) [] kk_n_backH kh_n_backH 3000 = true := by decide +kernel
theorem ko_n_backH (X : nt_X) : sx_KOK X (sx_tbs, []) kk_n_backH := sx_keeps (Ks := []) (fun K h => by cases h) kc_n_backH
end
section
/-! puts, by hand: a sign is written behind the others -/
theorem kp_run {X : nt_X} {d : Nat} {M : nt_M} {B Sg Ln : Nat} {s v : Int32} {t l : Nat} (hn : nt_n M ≤ nt_sp) (hB : B < nt_n M) (kB : nt_k M B = 11) (hS : Sg < nt_n M) (kS : nt_k M Sg = 13) (lS : nt_l M Sg = 2400) (hL : Ln < nt_n M) (kL : nt_k M Ln = 13) (lL : nt_l M Ln = 7) (rS : nt_R M B 3 = some Sg) (rL : nt_R M B 4 = some Ln) (ht : nt_I M B 18 = nI t) (hl : nt_I M Ln t = nI l) (t6 : t < 6) (l4 : l < 400) (nSL : Ln ≠ Sg) (nBS : B ≠ Sg) : nt_ev X d 155 [.ref B, .int s, .int v] M (none, nt_sI (nt_sI M Sg (400 * t + l) (s + Int32.ofInt 16 * v)) Ln t (nI (l + 1))) := by
  have hi1 : Int32.ofInt 400 * nt_I M B 18 + nt_I M Ln t = nI (400 * t + l) := by
    rw [ht, hl, show Int32.ofInt 400 = nI 400 from rfl]
    refine Int32.toInt_inj.mp ?_
    rw [nI_toInt (by omega), Int32.toInt_add, Int32.toInt_mul, nI_toInt (by omega), nI_toInt (by omega), nI_toInt (by omega), Int.bmod_eq_of_le (n := (400 : Nat) * (t : Nat)) (by omega) (by omega), Int.bmod_eq_of_le (by omega) (by omega)]
    omega
  generalize hM1 : nt_sI M Sg (400 * t + l) (s + Int32.ofInt 16 * v) = M1
  have i1 : nt_I M1 B 18 = nI t := by
    rw [← hM1]
    show (if B = Sg then _ else nt_I M B 18) = _
    rw [if_neg nBS]; exact ht
  have i2 : nt_I M1 Ln t = nI l := by
    rw [← hM1]
    show (if Ln = Sg then _ else nt_I M Ln t) = _
    rw [if_neg nSL]; exact hl
  have n1 : nt_n M1 = nt_n M := by rw [← hM1]; rfl
  have k1 : nt_k M1 = nt_k M := by rw [← hM1]; rfl
  have l1 : nt_l M1 = nt_l M := by rw [← hM1]; rfl
  have r1 : nt_R M1 = nt_R M := by rw [← hM1]; rfl
  refine nt_rn_b 1 (c' := (1, [(0, .ref B), (1, .int s), (2, .int v)], [.ref B], M)) rfl ?_
  refine nt_rn_s (e := (1, .getfield 13, 1103, 0)) rfl rfl (nt_x_get (c := 11) (v := .ref Sg) hB kB rfl (nt_gfR rfl rS)) ?_
  refine nt_rn_b 2 (c' := (8, [(0, .ref B), (1, .int s), (2, .int v)], [.ref B, .int (Int32.ofInt 400), .ref Sg], M)) rfl ?_
  refine nt_rn_s (e := (8, .getfield 121, 1118, 0)) rfl rfl (nt_x_get (c := 11) (v := .int (nt_I M B 18)) hB kB rfl rfl) ?_
  refine nt_rn_b 2 (c' := (13, [(0, .ref B), (1, .int s), (2, .int v)], [.ref B, .int (Int32.ofInt 400 * nt_I M B 18), .ref Sg], M)) rfl ?_
  refine nt_rn_s (e := (13, .getfield 17, 1104, 0)) rfl rfl (nt_x_get (c := 11) (v := .ref Ln) hB kB rfl (nt_gfR rfl rL)) ?_
  refine nt_rn_b 1 (c' := (17, [(0, .ref B), (1, .int s), (2, .int v)], [.ref B, .ref Ln, .int (Int32.ofInt 400 * nt_I M B 18), .ref Sg], M)) rfl ?_
  refine nt_rn_s (e := (17, .getfield 121, 1118, 0)) rfl rfl (nt_x_get (c := 11) (v := .int (nt_I M B 18)) hB kB rfl rfl) ?_
  refine nt_rn_s (e := (20, .iaload, 0, 0)) rfl rfl (nt_x_iald (i := t) hL kL hn ht (by rw [lL]; omega) (by rw [lL]; omega)) ?_
  refine nt_rn_b 6 (c' := (28, [(0, .ref B), (1, .int s), (2, .int v)], [.int (s + Int32.ofInt 16 * v), .int (Int32.ofInt 400 * nt_I M B 18 + nt_I M Ln t), .ref Sg], M)) rfl ?_
  refine nt_rn_s (e := (28, .iastore, 0, 0)) rfl rfl (nt_x_iast (i := 400 * t + l) hS kS hi1 (by rw [lS]; omega) (by rw [lS]; omega)) ?_
  rw [hM1]
  refine nt_rn_b 1 (c' := (30, [(0, .ref B), (1, .int s), (2, .int v)], [.ref B], M1)) rfl ?_
  refine nt_rn_s (e := (30, .getfield 17, 1104, 0)) rfl rfl (nt_x_get (c := 11) (v := .ref Ln) (by rw [n1]; exact hB) (by rw [k1]; exact kB) rfl (nt_gfR rfl (by rw [r1]; exact rL))) ?_
  refine nt_rn_b 1 (c' := (34, [(0, .ref B), (1, .int s), (2, .int v)], [.ref B, .ref Ln], M1)) rfl ?_
  refine nt_rn_s (e := (34, .getfield 121, 1118, 0)) rfl rfl (nt_x_get (c := 11) (v := .int (nt_I M1 B 18)) (by rw [n1]; exact hB) (by rw [k1]; exact kB) rfl rfl) ?_
  refine nt_rn_b 1 (c' := (38, [(0, .ref B), (1, .int s), (2, .int v)], [.int (nt_I M1 B 18), .ref Ln, .int (nt_I M1 B 18), .ref Ln], M1)) rfl ?_
  refine nt_rn_s (e := (38, .iaload, 0, 0)) rfl rfl (nt_x_iald (i := t) (by rw [n1]; exact hL) (by rw [k1]; exact kL) (by rw [n1]; exact hn) i1 (by rw [l1, lL]; omega) (by rw [l1, lL]; omega)) ?_
  refine nt_rn_b 2 (c' := (41, [(0, .ref B), (1, .int s), (2, .int v)], [.int (nt_I M1 Ln t + Int32.ofInt 1), .int (nt_I M1 B 18), .ref Ln], M1)) rfl ?_
  refine nt_rn_s (e := (41, .iastore, 0, 0)) rfl rfl (nt_x_iast (i := t) (by rw [n1]; exact hL) (by rw [k1]; exact kL) i1 (by rw [l1, lL]; omega) (by rw [l1, lL]; omega)) ?_
  exact nt_rn_rv (e := (42, .return_, 0, 0)) rfl rfl rfl (by rw [i2, show Int32.ofInt 1 = 1 from rfl, nI_1])
def kp_D : sx_D := [(11, 0, 0, 9), (13, 2400, 2400, 0), (13, 288, 288, 0), (13, 6, 6, 14), (13, 212, 212, 10), (14, 64, 64, 0), (14, 10, 10, 0), (13, 212, 212, 10), (12, 400, 400, 0), (13, 400, 400, 0), (13, 7, 7, 13), (13, 24, 24, 0), (13, 72, 72, 11), (13, 32, 32, 12), (13, 848, 848, 16), (15, 4, 4, 0)]
def kp_R : sx_R := [((0, (3, [])), 2), ((0, (5, [])), 3), ((0, (6, [])), 4), ((0, (27, [])), 5), ((0, (24, [])), 6), ((0, (26, [])), 7), ((0, (28, [])), 8), ((0, (0, [])), 9), ((0, (22, [])), 10), ((0, (4, [])), 11), ((0, (12, [])), 12), ((0, (13, [])), 13), ((0, (14, [])), 14), ((0, (29, [])), 15), ((0, (30, [])), 16)]
def kp_N (sl sh vl vh dl dh : Int) : sx_N := ([((0, (18, [])), (0, [(2, 1)])), ((10, (0, [(2, 1)])), (0, [(3, 1)])), ((103, (0, [(4, 1)])), (0, [(4, 1)])), ((101, (0, [(2, 400), (3, 1), (4, 10000)])), (0, [(5, 1)])), ((105, (0, [(6, 1)])), (0, [(6, 1)])), ((100, (20000, [(2, 1000), (3, 1), (6, 10000)])), (1, []))], kp_R, ([(0, sl, sh), (1, vl, vh), (2, 0, 5), (3, 0, 399), (4, 0, 2400), (5, dl, dh), (6, 0, 160801)], [(0, [(2, 400), (3, 1), (4, (-1))])]), 7)
def kp_P (e : Int) : sx_N := ([((10, (0, [(2, 1)])), (1, [(3, 1)])), ((103, (0, [(4, 1)])), (0, [(4, 1)])), ((101, (1, [(2, 400), (3, 1), (4, 10000)])), (e, [(5, 1)])), ((100, (20001, [(2, 1000), (3, 1), (6, 10000)])), (1, []))], [], ([], []), 7)
def kp_K (sl sh vl vh dl dh e : Int) : sx_K := (155, 0, kp_D, ([(1, 0, 2147483647), (10, 0, 2147483647)], []), [(2, 0, (0, [])), (0, 0, (0, [(0, 1)])), (0, 0, (0, [(1, 1)]))], kp_N sl sh vl vh dl dh, [(none, kp_P e)])
theorem nt_rp_eq2 {a a' : Nat → Int32} {b : Nat} : ∀ n, (∀ j, b ≤ j → j < b + n → a j = a' j) → nt_rp a b n = nt_rp a' b n
  | 0, _ => rfl
  | n + 1, h => by
    unfold nt_rp
    rw [nt_rp_eq2 n (fun j h0 hj => h j h0 (by omega)), h (b + n) (by omega) (by omega)]
/-- rules that can be reckoned still can, if a sign comes behind -/
theorem kp_rk {p q : Nat → Nat → Int32} {t l : Nat} (ht : t < 6) (hl : l < 400) (h1 : ∀ j, j ≠ 400 * t + l → p 1 j = q 1 j) (h2 : ∀ j, p 2 j = q 2 j) (h3 : ∀ j, p 3 j = q 3 j) (h : nt_rk p t (l : Int)) : nt_rk q t ((l : Int) + 1) := by
  intro t' c h6 hc hk
  rw [← h3] at hk
  have k := h t' c h6 hc hk
  unfold nt_ck at k ⊢
  rw [h2, h2, h2, h2] at k
  obtain ⟨⟨a1, a2, a3, a4⟩, a5⟩ := k
  have key : ∀ (b e : Int), 0 ≤ b → b ≤ e → e ≤ (if t' = t then (l : Int) else 400) → nt_rp (p 1) (400 * t' + b.toNat) (e - b).toNat = some 1 → nt_rp (q 1) (400 * t' + b.toNat) (e - b).toNat = some 1 := by
    intro b e hb hbe he hk
    rw [← nt_rp_eq2 _ (fun j hj0 hj => h1 j ?_)]
    · exact hk
    · by_cases e1 : t' = t
      · rw [if_pos e1] at he
        rw [e1] at hj0 hj
        omega
      · rw [if_neg e1] at he
        rcases Nat.lt_or_gt_of_ne e1 with g | g <;> omega
  have up : ∀ e : Int, e ≤ (if t' = t then (l : Int) else 400) → e ≤ (if t' = t then (l : Int) + 1 else 400) := by
    intro e he
    split at he
    · rename_i e1; rw [if_pos e1]; omega
    · rename_i e1; rw [if_neg e1]; exact he
  refine ⟨⟨a1, a2, up _ a3, key _ _ a1 a2 a3 a4⟩, ?_⟩
  rcases a5 with a5 | ⟨b1, b2, b3⟩
  · exact Or.inl a5
  · by_cases hneg : (q 2 (48 * t' + 4 * c + 2)).toInt < 0
    · exact Or.inl hneg
    · exact Or.inr ⟨b1, up _ b2, key _ _ (by omega) b1 b2 b3⟩
theorem kp_pd {p q : Nat → Nat → Int32} {t l z : Nat} (h1 : ∀ j, j < 400 * t + l → p 1 j = q 1 j) (h : nt_pd p t l z) : nt_pd q t (l + 1) z := by
  obtain ⟨a, b⟩ := h
  refine ⟨by omega, ?_⟩
  rw [← nt_rp_eq2 _ (fun j hj0 hj => h1 j (by omega))]
  exact b
theorem kp_g0 {p : Nat → Nat → Int32} {t l z : Int} (ht : 0 ≤ t) (ht2 : t < 10) (hl0 : 0 ≤ l) (hl : l ≤ 400) (hz : 0 ≤ z) : nt_ghost 0 p (20000 + 1000 * t + l + 10000 * z) = 1 ↔ nt_rk p t.toNat l ∧ (z = 0 ∨ nt_pd p t.toNat l.toNat (z - 1).toNat) := by
  have e1 : (20000 + 1000 * t + l + 10000 * z) % 1000 = l := by omega
  have e2 : (20000 + 1000 * t + l + 10000 * z - 20000) / 1000 % 10 = t := by omega
  have e3 : (20000 + 1000 * t + l + 10000 * z - 20000) / 10000 = z := by omega
  have key : nt_gk p (20000 + 1000 * t + l + 10000 * z) ↔ nt_rk p t.toNat l ∧ (z = 0 ∨ nt_pd p t.toNat l.toNat (z - 1).toNat) := by
    unfold nt_gk
    rw [e1, e2, e3]
    constructor
    · rintro (k | k)
      · omega
      · exact k.2.2
    · intro k
      exact Or.inr ⟨by omega, hl, k⟩
  unfold nt_ghost
  rw [if_pos rfl]
  constructor
  · intro h
    by_cases k : nt_gk p (20000 + 1000 * t + l + 10000 * z)
    · exact key.mp k
    · rw [@if_neg _ (Classical.propDecidable _) k] at h
      cases h
  · intro h
    exact @if_pos _ (Classical.propDecidable _) (key.mpr h) _ _ _
theorem kp_g1 {p : Nat → Nat → Int32} {b k : Int} (hb : 0 ≤ b) (hk : 0 ≤ k) (hk2 : k < 10000) : nt_ghost 1 p (10000 * b + k) = (match nt_rp (p 1) b.toNat (k - b).toNat with | some d => (d : Int) | none => -1) := by
  have e1 : (10000 * b + k) % 10000 = k := by omega
  have e2 : (10000 * b + k) / 10000 = b := by omega
  unfold nt_ghost
  rw [if_neg (by decide), if_pos rfl, if_pos (by omega), e1, e2]
  rfl
set_option maxRecDepth 4000 in
theorem kp_ok {sl sh vl vh dl dh e : Int} (hdl : 0 ≤ dl) (heff : ∀ (a : Nat → Int32) (b n d : Nat) (s v : Int32), sl ≤ s.toInt → s.toInt ≤ sh → vl ≤ v.toInt → v.toInt ≤ vh → dl ≤ (d : Int) → (d : Int) ≤ dh → nt_rp a b n = some d → a (b + n) = s + Int32.ofInt 16 * v → ∃ d', nt_rp a b (n + 1) = some d' ∧ (d' : Int) = (d : Int) + e) (X : nt_X) : sx_KOK X (sx_tbs, sx_gps) (kp_K sl sh vl vh dl dh e) := by
  intro F r vs M d hd hM hr hG hargs hon
  obtain ⟨v0, u0, rfl, rfl, ha⟩ := sx_os_c hargs
  obtain ⟨v1, u1, rfl, ⟨s, rfl, hs⟩, ha1⟩ := sx_os_c ha
  obtain ⟨v2, u2, rfl, ⟨v, rfl, hv⟩, ha2⟩ := sx_os_c ha1
  cases u2 with
  | cons _ _ => exact ha2.elim
  | nil =>
  have hs : s.toInt = r 0 := by rw [hs]; exact sx_s_e r 0
  have hv : v.toInt = r 1 := by rw [hv]; exact sx_s_e r 1
  have hgh : F.2.2.2 = nt_ghost := hG
  have hoi := hon.2.2.1
  have hob := hon.2.2.2.2.1.1
  have hoc := hon.2.2.2.2.1.2
  have bs := hob (0, sl, sh) (List.Mem.head _)
  have bv := hob (1, vl, vh) (List.Mem.tail _ (List.Mem.head _))
  have b2 := hob (2, 0, 5) (List.Mem.tail _ (List.Mem.tail _ (List.Mem.head _)))
  have b3 := hob (3, 0, 399) (List.Mem.tail _ (List.Mem.tail _ (List.Mem.tail _ (List.Mem.head _))))
  have b4 := hob (4, 0, 2400) (List.Mem.tail _ (List.Mem.tail _ (List.Mem.tail _ (List.Mem.tail _ (List.Mem.head _)))))
  have b5 := hob (5, dl, dh) (List.Mem.tail _ (List.Mem.tail _ (List.Mem.tail _ (List.Mem.tail _ (List.Mem.tail _ (List.Mem.head _))))))
  have b6 := hob (6, 0, 160801) (List.mem_of_getElem? (i := 6) rfl)
  dsimp only at bs bv b2 b3 b4 b5 b6
  have c4 : 0 ≤ sx_e r (0, [(2, 400), (3, 1), (4, (-1))]) := hoc _ (List.Mem.head _)
  have c4 : 0 ≤ 400 * r 2 + r 3 - r 4 := by
    have : sx_e r (0, [(2, 400), (3, 1), (4, (-1))]) = 0 + (400 * r 2 + (1 * r 3 + (-1 * r 4 + 0))) := rfl
    omega
  have k0 := (hoi ((0, (18, [])), (0, [(2, 1)])) (List.Mem.head _)).2
  have k1 := (hoi ((10, (0, [(2, 1)])), (0, [(3, 1)])) (List.Mem.tail _ (List.Mem.head _))).2
  have k2 := (hoi ((100, (20000, [(2, 1000), (3, 1), (6, 10000)])), (1, [])) (List.mem_of_getElem? (i := 5) rfl)).2
  have k4 := (hoi ((101, (0, [(2, 400), (3, 1), (4, 10000)])), (0, [(5, 1)])) (List.mem_of_getElem? (i := 3) rfl)).2
  dsimp only at k0 k1 k2 k4
  rw [sx_c_e, sx_s_e] at k0
  rw [sx_s_e, sx_s_e] at k1
  have e2 : sx_e r (20000, [(2, 1000), (3, 1), (6, 10000)]) = 20000 + 1000 * r 2 + r 3 + 10000 * r 6 := by
    show (20000 : Int) + (1000 * r 2 + (1 * r 3 + (10000 * r 6 + 0))) = _
    omega
  have e4 : sx_e r (0, [(2, 400), (3, 1), (4, 10000)]) = 10000 * r 4 + (400 * r 2 + r 3) := by
    show (0 : Int) + (400 * r 2 + (1 * r 3 + (10000 * r 4 + 0))) = _
    omega
  rw [e2, sx_c_e] at k2
  rw [e4, sx_s_e] at k4
  unfold sx_rd at k0 k1 k2 k4
  rw [if_neg (by decide), if_neg (by decide)] at k0
  rw [if_neg (by decide), if_neg (by omega)] at k1
  rw [if_pos (by decide), hgh] at k2
  rw [if_pos (by decide), hgh] at k4
  obtain ⟨t, et⟩ : ∃ t : Nat, r 2 = (t : Int) := ⟨(r 2).toNat, by omega⟩
  obtain ⟨l, el⟩ : ∃ l : Nat, r 3 = (l : Int) := ⟨(r 3).toNat, by omega⟩
  obtain ⟨b, eb⟩ : ∃ b : Nat, r 4 = (b : Int) := ⟨(r 4).toNat, by omega⟩
  rw [et] at b2 c4 k0 k1 k2 k4
  rw [el] at b3 c4 k1 k2 k4
  rw [eb] at b4 c4 k4
  have g0 := hon.2.1.2 0 _ (show (sx_KE (sx_tbs, sx_gps) (kp_K sl sh vl vh dl dh e)).2.1[0]? = some (11, 0, 0, 9) from rfl)
  have g1 := hon.2.1.2 1 _ (show (sx_KE (sx_tbs, sx_gps) (kp_K sl sh vl vh dl dh e)).2.1[1]? = some (13, 2400, 2400, 0) from rfl)
  have g10 := hon.2.1.2 10 _ (show (sx_KE (sx_tbs, sx_gps) (kp_K sl sh vl vh dl dh e)).2.1[10]? = some (13, 7, 7, 13) from rfl)
  have hij := hon.1.2
  have nSL : F.1 10 ≠ F.1 1 := fun h => absurd (hij 10 1 (by show 10 < 16; omega) (by show 1 < 16; omega) h) (by decide)
  have nBS : F.1 0 ≠ F.1 1 := fun h => absurd (hij 0 1 (by show 0 < 16; omega) (by show 1 < 16; omega) h) (by decide)
  have rS := (hon.2.2.2.1 ((0, (3, [])), 2) (List.Mem.head _)).2.2
  have rL := (hon.2.2.2.1 ((0, (4, [])), 11) (List.mem_of_getElem? (i := 9) rfl)).2.2
  dsimp only at rS rL
  rw [sx_c_e] at rS rL
  have rS : nt_R M (F.1 0) 3 = some (F.1 1) := rS
  have rL : nt_R M (F.1 0) 4 = some (F.1 10) := rL
  have ht18 : nt_I M (F.1 0) 18 = nI t := Int32.toInt_inj.mp (by rw [nI_toInt (by omega)]; exact k0)
  have hlen : nt_I M (F.1 10) t = nI l := Int32.toInt_inj.mp (by rw [nI_toInt (by omega)]; exact k1)
  have hrun := kp_run (X := X) (d := d) (s := s) (v := v) hon.2.1.1 g0.1 g0.2.1 g1.1 g1.2.1 (by have := g1.2.2.1; dsimp only at this; omega) g10.1 g10.2.1 (by have := g10.2.2.1; dsimp only at this; omega) rS rL ht18 hlen (by omega) (by omega) nSL nBS
  refine ⟨_, hrun, _, List.Mem.head _, r, trivial, ?_⟩
  have w1 := sx_wr_ok (E := sx_KE (sx_tbs, sx_gps) (kp_K sl sh vl vh dl dh e)) (g := 1) (q := (13, 2400, 2400, 0)) (L := (0, [(2, 400), (3, 1)])) (x := s + Int32.ofInt 16 * v) rfl hon rfl (by decide) (by show (0 : Int) ≤ 0 + (400 * r 2 + (1 * r 3 + 0)); omega) rfl (by
    have a1 := (s + Int32.ofInt 16 * v).le_toInt
    have a2 := (s + Int32.ofInt 16 * v).toInt_lt
    show (-2147483648 : Int) ≤ _ ∧ _ ≤ (2147483647 : Int)
    omega)
  have i1 : (sx_e r (0, [(2, 400), (3, 1)])).toNat = 400 * t + l := by
    have : sx_e r (0, [(2, 400), (3, 1)]) = 0 + (400 * r 2 + (1 * r 3 + 0)) := rfl
    omega
  rw [i1] at w1
  have w2 := sx_wr_ok (E := sx_KE (sx_tbs, sx_gps) (kp_K sl sh vl vh dl dh e)) (g := 10) (q := (13, 7, 7, 13)) (L := (0, [(2, 1)])) (x := nI (l + 1)) rfl w1 rfl (by decide) (by rw [sx_s_e]; omega) rfl (by
    rw [nI_toInt (by omega)]
    have : sx_iv ((sx_KE (sx_tbs, sx_gps) (kp_K sl sh vl vh dl dh e)).1.1.getD 13 []) (sx_e r (0, [(2, 1)])).toNat = (0, 400) := by
      show (if 0 ≤ (sx_e r (0, [(2, 1)])).toNat then ([(0, 400)] : List (Int × Int)).getD (((sx_e r (0, [(2, 1)])).toNat - 0) % 1) (-2147483648, 2147483647) else _) = _
      rw [if_pos (Nat.zero_le _), Nat.mod_one]; rfl
    dsimp only
    rw [this]
    dsimp only
    omega)
  have i2 : (sx_e r (0, [(2, 1)])).toNat = t := by rw [sx_s_e]; omega
  rw [i2] at w2
  refine ⟨w2.1, w2.2.1, ?_, fun q hq => (by cases hq), ⟨fun q hq => (by cases hq), fun q hq => (by cases hq)⟩, w2.2.2.2.2.2.1, w2.2.2.2.2.2.2⟩
  have row1 : ∀ j, nt_I (nt_sI (nt_sI M (F.1 1) (400 * t + l) (s + Int32.ofInt 16 * v)) (F.1 10) t (nI (l + 1))) (F.1 1) j = if j = 400 * t + l then s + Int32.ofInt 16 * v else nt_I M (F.1 1) j := by
    intro j
    show (if F.1 1 = F.1 10 then _ else (if F.1 1 = F.1 1 then (if j = 400 * t + l then _ else nt_I M (F.1 1) j) else _)) = _
    rw [if_neg (fun h => nSL h.symm), if_pos rfl]
  have rowo : ∀ g j, g < 16 → g ≠ 1 → g ≠ 10 → nt_I (nt_sI (nt_sI M (F.1 1) (400 * t + l) (s + Int32.ofInt 16 * v)) (F.1 10) t (nI (l + 1))) (F.1 g) j = nt_I M (F.1 g) j := by
    intro g j hg h1 h10
    show (if F.1 g = F.1 10 then _ else (if F.1 g = F.1 1 then _ else nt_I M (F.1 g) j)) = _
    rw [if_neg (fun h => h10 (hij g 10 hg (by show 10 < 16; omega) h)), if_neg (fun h => h1 (hij g 1 hg (by show 1 < 16; omega) h))]
  intro q hq
  rcases List.mem_cons.mp hq with rfl | hq
  · refine ⟨Or.inl (by show 10 < 16; omega), ?_⟩
    dsimp only
    rw [sx_s_e]
    unfold sx_rd
    rw [if_neg (by decide), if_neg (by omega), show (r 2).toNat = t from by omega]
    show Int32.toInt (if F.1 10 = F.1 10 then (if t = t then nI (l + 1) else _) else _) = 1 + (1 * r 3 + 0)
    rw [if_pos rfl, if_pos rfl, nI_toInt (by omega)]
    omega
  rcases List.mem_cons.mp hq with rfl | hq
  · refine ⟨Or.inr (by decide), ?_⟩
    dsimp only
    unfold sx_rd
    rw [if_pos (by decide), hgh]
    rfl
  rcases List.mem_cons.mp hq with rfl | hq
  · refine ⟨Or.inr (by show 100 ≤ 101; omega), ?_⟩
    dsimp only
    have e5 : sx_e r (1, [(2, 400), (3, 1), (4, 10000)]) = 10000 * (b : Int) + ((400 * t + l : Nat) + 1 : Int) := by
      show (1 : Int) + (400 * r 2 + (1 * r 3 + (10000 * r 4 + 0))) = _
      omega
    rw [e5]
    unfold sx_rd
    rw [if_pos (by decide), hgh]
    show nt_ghost 1 _ _ = _
    rw [kp_g1 (by omega) (by omega) (by omega)]
    rw [show (400 * (t : Int) + (l : Int)) = ((400 * t + l : Nat) : Int) from by omega, show (101 - 100 : Nat) = 1 from rfl, kp_g1 (by omega) (by omega) (by omega)] at k4
    have hn1 : (((400 * t + l : Nat) : Int) - (b : Int)).toNat = 400 * t + l - b := by omega
    have hn2 : (((400 * t + l : Nat) : Int) + 1 - (b : Int)).toNat = 400 * t + l - b + 1 := by omega
    rw [hn1, show ((b : Int)).toNat = b from by omega] at k4
    rw [hn2, show ((b : Int)).toNat = b from by omega]
    cases hrp : nt_rp (fun j => nt_I M (F.1 1) j) b (400 * t + l - b) with
    | none =>
      rw [hrp] at k4
      dsimp only at k4
      omega
    | some dd =>
      rw [hrp] at k4
      dsimp only at k4
      have hrp2 : nt_rp (fun j => nt_I (nt_sI (nt_sI M (F.1 1) (400 * t + l) (s + Int32.ofInt 16 * v)) (F.1 10) t (nI (l + 1))) (F.1 1) j) b (400 * t + l - b) = some dd := by
        rw [← hrp]
        refine nt_rp_eq2 _ fun j hj0 hj => ?_
        rw [row1, if_neg (by omega)]
      obtain ⟨d', h1, h2⟩ := heff _ b (400 * t + l - b) dd s v (by omega) (by omega) (by omega) (by omega) (by omega) (by omega) hrp2 (by rw [row1, if_pos (by omega)])
      rw [h1]
      show (d' : Int) = e + (1 * r 5 + 0)
      omega
  rcases List.mem_cons.mp hq with rfl | hq
  · refine ⟨Or.inr (by decide), ?_⟩
    dsimp only
    have e6 : sx_e r (20001, [(2, 1000), (3, 1), (6, 10000)]) = 20000 + 1000 * (t : Int) + ((l : Int) + 1) + 10000 * r 6 := by
      show (20001 : Int) + (1000 * r 2 + (1 * r 3 + (10000 * r 6 + 0))) = _
      omega
    rw [e6, sx_c_e]
    unfold sx_rd
    rw [if_pos (by decide), hgh]
    refine (kp_g0 (by omega) (by omega) (by omega) (by omega) (by omega)).mpr ?_
    have k2 := (kp_g0 (by omega) (by omega) (by omega) (by omega) (by omega)).mp k2
    rw [show ((t : Int)).toNat = t from by omega] at k2 ⊢
    rw [show ((l : Int)).toNat = l from by omega] at k2
    rw [show ((l : Int) + 1).toNat = l + 1 from by omega]
    refine ⟨kp_rk (by omega) (by omega) (fun j hj => by rw [row1, if_neg hj]) (fun j => (rowo 2 j (by omega) (by decide) (by decide)).symm) (fun j => (rowo 3 j (by omega) (by decide) (by decide)).symm) k2.1, ?_⟩
    rcases k2.2 with k | k
    · exact Or.inl k
    · exact Or.inr (kp_pd (fun j hj => by rw [row1, if_neg (by omega)]) k)
  · cases hq
theorem kp_and {s v : Int32} (h0 : 0 ≤ s.toInt) (h1 : s.toInt ≤ 15) : (s + Int32.ofInt 16 * v) &&& 15 = s := by
  apply Int32.toBitVec_inj.mp
  apply BitVec.eq_of_toNat_eq
  show ((s.toBitVec + (Int32.ofInt 16).toBitVec * v.toBitVec) &&& (15 : Int32).toBitVec).toNat = s.toBitVec.toNat
  have e : s.toInt = s.toBitVec.toInt := rfl
  rw [e, BitVec.toInt_eq_toNat_cond] at h0 h1
  have hb := s.toBitVec.isLt
  have hv := v.toBitVec.isLt
  have hs : s.toBitVec.toNat ≤ 15 := by
    split at h0
    · rename_i k; rw [if_pos k] at h1; omega
    · omega
  rw [BitVec.toNat_and, BitVec.toNat_add, BitVec.toNat_mul, show (15 : Int32).toBitVec.toNat = 2 ^ 4 - 1 from rfl, Nat.and_two_pow_sub_one_eq_mod, show (Int32.ofInt 16).toBitVec.toNat = 16 from rfl]
  omega
theorem kp_shr {s v : Int32} (hs : s.toInt = 1) (h0 : 0 ≤ v.toInt) (h1 : v.toInt ≤ 9) : 0 ≤ ((s + Int32.ofInt 16 * v) >>> 4).toInt ∧ ((s + Int32.ofInt 16 * v) >>> 4).toInt ≤ 9 := by
  have es : s = 1 := Int32.toInt_inj.mp (by rw [hs]; rfl)
  have ev : v = nI v.toInt.toNat := Int32.toInt_inj.mp (by rw [nI_toInt (by omega)]; omega)
  have key : ∀ k : Nat, k < 10 → 0 ≤ (((1 : Int32) + Int32.ofInt 16 * nI k) >>> 4).toInt ∧ (((1 : Int32) + Int32.ofInt 16 * nI k) >>> 4).toInt ≤ 9 := by decide +kernel
  rw [es, ev]
  exact key _ (by omega)
theorem kp_ne {s : Int32} {k : Int32} (h : s.toInt ≠ k.toInt) : ¬ s = k := fun e => h (by rw [e])
theorem kp_eV {a : Nat → Int32} {b n d : Nat} {s v : Int32} (hs : s.toInt = 0 ∨ s.toInt = 1 ∧ 0 ≤ v.toInt ∧ v.toInt ≤ 9) (hd : d < 60) (h : nt_rp a b n = some d) (ha : a (b + n) = s + Int32.ofInt 16 * v) : nt_rp a b (n + 1) = some (d + 1) := by
  unfold nt_rp
  rw [h]
  dsimp only
  rw [ha, kp_and (by omega) (by omega)]
  rcases hs with hs | ⟨hs, h0, h1⟩
  · rw [if_pos (Int32.toInt_inj.mp (by rw [hs]; rfl)), if_pos hd]
  · have := kp_shr hs h0 h1
    rw [if_neg (kp_ne (by rw [hs]; decide)), if_pos (Int32.toInt_inj.mp (by rw [hs]; rfl)), if_pos ⟨hd, this.1, this.2⟩]
theorem kp_eB {a : Nat → Int32} {b n d : Nat} {s v : Int32} (hs : 2 ≤ s.toInt) (hs2 : s.toInt ≤ 15) (hs3 : s.toInt ≠ 11) (hd : 2 ≤ d) (h : nt_rp a b n = some d) (ha : a (b + n) = s + Int32.ofInt 16 * v) : nt_rp a b (n + 1) = some (d - 1) := by
  unfold nt_rp
  rw [h]
  dsimp only
  rw [ha, kp_and (by omega) (by omega), if_neg (kp_ne (by show s.toInt ≠ 0; omega)), if_neg (kp_ne (by show s.toInt ≠ 1; omega)), if_neg (kp_ne (by show s.toInt ≠ 11; omega)), if_pos hd]
theorem kp_eT {a : Nat → Int32} {b n d : Nat} {s v : Int32} (hs : s.toInt = 11) (hd : 1 ≤ d) (h : nt_rp a b n = some d) (ha : a (b + n) = s + Int32.ofInt 16 * v) : nt_rp a b (n + 1) = some d := by
  unfold nt_rp
  rw [h]
  dsimp only
  rw [ha, kp_and (by omega) (by omega), if_neg (kp_ne (by rw [hs]; decide)), if_neg (kp_ne (by rw [hs]; decide)), if_pos (Int32.toInt_inj.mp (by rw [hs]; rfl)), if_pos hd]
end
section
def kk_putsA : sx_K := (155, 0, [(11, 0, 0, 9), (13, 2400, 2400, 0), (13, 288, 288, 0), (13, 6, 6, 14), (13, 212, 212, 10), (14, 64, 64, 0), (14, 10, 10, 0), (13, 212, 212, 10), (12, 400, 400, 0), (13, 400, 400, 0), (13, 7, 7, 13), (13, 24, 24, 0), (13, 72, 72, 11), (13, 32, 32, 12), (13, 848, 848, 16), (15, 4, 4, 0)], ([(1, 0, 2147483647), (10, 0, 2147483647)], []), [(2, 0, (0, [])), (0, 0, (0, [(0, 1)])), (0, 0, (0, [(1, 1)]))], ([((0, (18, [])), (0, [(2, 1)])), ((10, (0, [(2, 1)])), (0, [(3, 1)])), ((103, (0, [(4, 1)])), (0, [(4, 1)])), ((101, (0, [(2, 400), (3, 1), (4, 10000)])), (0, [(5, 1)])), ((105, (0, [(6, 1)])), (0, [(6, 1)])), ((100, (20000, [(2, 1000), (3, 1), (6, 10000)])), (1, []))], [((0, (3, [])), 2), ((0, (5, [])), 3), ((0, (6, [])), 4), ((0, (27, [])), 5), ((0, (24, [])), 6), ((0, (26, [])), 7), ((0, (28, [])), 8), ((0, (0, [])), 9), ((0, (22, [])), 10), ((0, (4, [])), 11), ((0, (12, [])), 12), ((0, (13, [])), 13), ((0, (14, [])), 14), ((0, (29, [])), 15), ((0, (30, [])), 16)], ([(0, 2, 10), (1, 0, 0), (2, 0, 5), (3, 0, 399), (4, 0, 2400), (5, 2, 60), (6, 0, 160801)], [(0, [(2, 400), (3, 1), (4, (-1))])]), 7), [(none, ([((10, (0, [(2, 1)])), (1, [(3, 1)])), ((103, (0, [(4, 1)])), (0, [(4, 1)])), ((101, (1, [(2, 400), (3, 1), (4, 10000)])), ((-1), [(5, 1)])), ((100, (20001, [(2, 1000), (3, 1), (6, 10000)])), (1, []))], [], ([], []), 7))])
theorem ko_putsA (X : nt_X) : sx_KOK X (sx_tbs, sx_gps) kk_putsA := kp_ok (sl := 2) (sh := 10) (vl := 0) (vh := 0) (dl := 2) (dh := 60) (e := -1) (by omega) (fun _ _ _ _ _ _ a1 a2 _ _ b1 b2 h ha => ⟨_, kp_eB (by omega) (by omega) (by omega) (by omega) h ha, by omega⟩) X
end
section
def kk_putsB : sx_K := (155, 0, [(11, 0, 0, 9), (13, 2400, 2400, 0), (13, 288, 288, 0), (13, 6, 6, 14), (13, 212, 212, 10), (14, 64, 64, 0), (14, 10, 10, 0), (13, 212, 212, 10), (12, 400, 400, 0), (13, 400, 400, 0), (13, 7, 7, 13), (13, 24, 24, 0), (13, 72, 72, 11), (13, 32, 32, 12), (13, 848, 848, 16), (15, 4, 4, 0)], ([(1, 0, 2147483647), (10, 0, 2147483647)], []), [(2, 0, (0, [])), (0, 0, (0, [(0, 1)])), (0, 0, (0, [(1, 1)]))], ([((0, (18, [])), (0, [(2, 1)])), ((10, (0, [(2, 1)])), (0, [(3, 1)])), ((103, (0, [(4, 1)])), (0, [(4, 1)])), ((101, (0, [(2, 400), (3, 1), (4, 10000)])), (0, [(5, 1)])), ((105, (0, [(6, 1)])), (0, [(6, 1)])), ((100, (20000, [(2, 1000), (3, 1), (6, 10000)])), (1, []))], [((0, (3, [])), 2), ((0, (5, [])), 3), ((0, (6, [])), 4), ((0, (27, [])), 5), ((0, (24, [])), 6), ((0, (26, [])), 7), ((0, (28, [])), 8), ((0, (0, [])), 9), ((0, (22, [])), 10), ((0, (4, [])), 11), ((0, (12, [])), 12), ((0, (13, [])), 13), ((0, (14, [])), 14), ((0, (29, [])), 15), ((0, (30, [])), 16)], ([(0, 12, 13), (1, 0, 0), (2, 0, 5), (3, 0, 399), (4, 0, 2400), (5, 2, 60), (6, 0, 160801)], [(0, [(2, 400), (3, 1), (4, (-1))])]), 7), [(none, ([((10, (0, [(2, 1)])), (1, [(3, 1)])), ((103, (0, [(4, 1)])), (0, [(4, 1)])), ((101, (1, [(2, 400), (3, 1), (4, 10000)])), ((-1), [(5, 1)])), ((100, (20001, [(2, 1000), (3, 1), (6, 10000)])), (1, []))], [], ([], []), 7))])
theorem ko_putsB (X : nt_X) : sx_KOK X (sx_tbs, sx_gps) kk_putsB := kp_ok (sl := 12) (sh := 13) (vl := 0) (vh := 0) (dl := 2) (dh := 60) (e := -1) (by omega) (fun _ _ _ _ _ _ a1 a2 _ _ b1 b2 h ha => ⟨_, kp_eB (by omega) (by omega) (by omega) (by omega) h ha, by omega⟩) X
end
section
def kk_putsN : sx_K := (155, 0, [(11, 0, 0, 9), (13, 2400, 2400, 0), (13, 288, 288, 0), (13, 6, 6, 14), (13, 212, 212, 10), (14, 64, 64, 0), (14, 10, 10, 0), (13, 212, 212, 10), (12, 400, 400, 0), (13, 400, 400, 0), (13, 7, 7, 13), (13, 24, 24, 0), (13, 72, 72, 11), (13, 32, 32, 12), (13, 848, 848, 16), (15, 4, 4, 0)], ([(1, 0, 2147483647), (10, 0, 2147483647)], []), [(2, 0, (0, [])), (0, 0, (0, [(0, 1)])), (0, 0, (0, [(1, 1)]))], ([((0, (18, [])), (0, [(2, 1)])), ((10, (0, [(2, 1)])), (0, [(3, 1)])), ((103, (0, [(4, 1)])), (0, [(4, 1)])), ((101, (0, [(2, 400), (3, 1), (4, 10000)])), (0, [(5, 1)])), ((105, (0, [(6, 1)])), (0, [(6, 1)])), ((100, (20000, [(2, 1000), (3, 1), (6, 10000)])), (1, []))], [((0, (3, [])), 2), ((0, (5, [])), 3), ((0, (6, [])), 4), ((0, (27, [])), 5), ((0, (24, [])), 6), ((0, (26, [])), 7), ((0, (28, [])), 8), ((0, (0, [])), 9), ((0, (22, [])), 10), ((0, (4, [])), 11), ((0, (12, [])), 12), ((0, (13, [])), 13), ((0, (14, [])), 14), ((0, (29, [])), 15), ((0, (30, [])), 16)], ([(0, 0, 0), (1, (-2147483648), 2147483647), (2, 0, 5), (3, 0, 399), (4, 0, 2400), (5, 0, 59), (6, 0, 160801)], [(0, [(2, 400), (3, 1), (4, (-1))])]), 7), [(none, ([((10, (0, [(2, 1)])), (1, [(3, 1)])), ((103, (0, [(4, 1)])), (0, [(4, 1)])), ((101, (1, [(2, 400), (3, 1), (4, 10000)])), (1, [(5, 1)])), ((100, (20001, [(2, 1000), (3, 1), (6, 10000)])), (1, []))], [], ([], []), 7))])
theorem ko_putsN (X : nt_X) : sx_KOK X (sx_tbs, sx_gps) kk_putsN := kp_ok (sl := 0) (sh := 0) (vl := -2147483648) (vh := 2147483647) (dl := 0) (dh := 59) (e := 1) (by omega) (fun _ _ _ _ _ _ a1 a2 _ _ _ b2 h ha => ⟨_, kp_eV (Or.inl (by omega)) (by omega) h ha, by omega⟩) X
end
section
def kk_putsT : sx_K := (155, 0, [(11, 0, 0, 9), (13, 2400, 2400, 0), (13, 288, 288, 0), (13, 6, 6, 14), (13, 212, 212, 10), (14, 64, 64, 0), (14, 10, 10, 0), (13, 212, 212, 10), (12, 400, 400, 0), (13, 400, 400, 0), (13, 7, 7, 13), (13, 24, 24, 0), (13, 72, 72, 11), (13, 32, 32, 12), (13, 848, 848, 16), (15, 4, 4, 0)], ([(1, 0, 2147483647), (10, 0, 2147483647)], []), [(2, 0, (0, [])), (0, 0, (0, [(0, 1)])), (0, 0, (0, [(1, 1)]))], ([((0, (18, [])), (0, [(2, 1)])), ((10, (0, [(2, 1)])), (0, [(3, 1)])), ((103, (0, [(4, 1)])), (0, [(4, 1)])), ((101, (0, [(2, 400), (3, 1), (4, 10000)])), (0, [(5, 1)])), ((105, (0, [(6, 1)])), (0, [(6, 1)])), ((100, (20000, [(2, 1000), (3, 1), (6, 10000)])), (1, []))], [((0, (3, [])), 2), ((0, (5, [])), 3), ((0, (6, [])), 4), ((0, (27, [])), 5), ((0, (24, [])), 6), ((0, (26, [])), 7), ((0, (28, [])), 8), ((0, (0, [])), 9), ((0, (22, [])), 10), ((0, (4, [])), 11), ((0, (12, [])), 12), ((0, (13, [])), 13), ((0, (14, [])), 14), ((0, (29, [])), 15), ((0, (30, [])), 16)], ([(0, 11, 11), (1, 0, 0), (2, 0, 5), (3, 0, 399), (4, 0, 2400), (5, 1, 60), (6, 0, 160801)], [(0, [(2, 400), (3, 1), (4, (-1))])]), 7), [(none, ([((10, (0, [(2, 1)])), (1, [(3, 1)])), ((103, (0, [(4, 1)])), (0, [(4, 1)])), ((101, (1, [(2, 400), (3, 1), (4, 10000)])), (0, [(5, 1)])), ((100, (20001, [(2, 1000), (3, 1), (6, 10000)])), (1, []))], [], ([], []), 7))])
theorem ko_putsT (X : nt_X) : sx_KOK X (sx_tbs, sx_gps) kk_putsT := kp_ok (sl := 11) (sh := 11) (vl := 0) (vh := 0) (dl := 1) (dh := 60) (e := 0) (by omega) (fun _ _ _ _ _ _ a1 a2 _ _ b1 b2 h ha => ⟨_, kp_eT (by omega) (by omega) h ha, by omega⟩) X
end
section
def kk_putsW : sx_K := (155, 0, [(11, 0, 0, 9), (13, 2400, 2400, 0), (13, 288, 288, 0), (13, 6, 6, 14), (13, 212, 212, 10), (14, 64, 64, 0), (14, 10, 10, 0), (13, 212, 212, 10), (12, 400, 400, 0), (13, 400, 400, 0), (13, 7, 7, 13), (13, 24, 24, 0), (13, 72, 72, 11), (13, 32, 32, 12), (13, 848, 848, 16), (15, 4, 4, 0)], ([(1, 0, 2147483647), (10, 0, 2147483647)], []), [(2, 0, (0, [])), (0, 0, (0, [(0, 1)])), (0, 0, (0, [(1, 1)]))], ([((0, (18, [])), (0, [(2, 1)])), ((10, (0, [(2, 1)])), (0, [(3, 1)])), ((103, (0, [(4, 1)])), (0, [(4, 1)])), ((101, (0, [(2, 400), (3, 1), (4, 10000)])), (0, [(5, 1)])), ((105, (0, [(6, 1)])), (0, [(6, 1)])), ((100, (20000, [(2, 1000), (3, 1), (6, 10000)])), (1, []))], [((0, (3, [])), 2), ((0, (5, [])), 3), ((0, (6, [])), 4), ((0, (27, [])), 5), ((0, (24, [])), 6), ((0, (26, [])), 7), ((0, (28, [])), 8), ((0, (0, [])), 9), ((0, (22, [])), 10), ((0, (4, [])), 11), ((0, (12, [])), 12), ((0, (13, [])), 13), ((0, (14, [])), 14), ((0, (29, [])), 15), ((0, (30, [])), 16)], ([(0, 1, 1), (1, 0, 9), (2, 0, 5), (3, 0, 399), (4, 0, 2400), (5, 0, 59), (6, 0, 160801)], [(0, [(2, 400), (3, 1), (4, (-1))])]), 7), [(none, ([((10, (0, [(2, 1)])), (1, [(3, 1)])), ((103, (0, [(4, 1)])), (0, [(4, 1)])), ((101, (1, [(2, 400), (3, 1), (4, 10000)])), (1, [(5, 1)])), ((100, (20001, [(2, 1000), (3, 1), (6, 10000)])), (1, []))], [], ([], []), 7))])
theorem ko_putsW (X : nt_X) : sx_KOK X (sx_tbs, sx_gps) kk_putsW := kp_ok (sl := 1) (sh := 1) (vl := 0) (vh := 9) (dl := 0) (dh := 59) (e := 1) (by omega) (fun _ _ _ _ _ _ a1 a2 a3 a4 _ b2 h ha => ⟨_, kp_eV (Or.inr ⟨by omega, a3, a4⟩) (by omega) h ha, by omega⟩) X
end
