set_option maxRecDepth 20000 in
theorem ggL_law_X10_init : GoodIn wsL_law wsX10_init := goodIn_r _ [10, 11, 12, 13, 14, 15, 16, 17, 18, 19, 20, 21, 22, 23, 24, 25, 26, 27, 28, 29, 30, 31, 32, 33, 34, 35, 36, 37, 38, 39, 40, 41, 42, 43, 44, 45, 46, 47, 48, 49, 50, 51, 52, 53, 54, 55, 6, 56, 57, 58, 59, 60, 61, 62, 63, 64, 65, 66, 67, 68, 69, 70, 71, 72, 73, 74, 75, 76, 77, 78, 79, 80, 81, 82, 83, 84, 85, 86, 87, 88, 89, 90, 91, 92, 93, 94, 95, 96, 97, 98, 99, 100, 101, 102, 103, 104, 105, 106, 107, 108, 109, 110, 111, 112, 113, 114, 115, 116, 117, 118, 119, 120, 121, 122, 123, 124, 125, 126, 127, 128, 129, 130, 131, 132, 1887, 1888, 1889, 1890, 1891, 1892, 1893, 1894, 1895, 1896, 1897, 1898, 1899, 1900, 1901, 1902, 1903, 1904, 1846, 1847, 1848, 1849, 1850, 1851, 1852, 1853, 1854, 1855, 1856, 1905, 1906, 1907, 1908, 1909, 1910, 1911, 1912, 1913, 1914, 1915, 1916, 1917, 1918, 1919, 1920, 1921, 1922, 1923, 1924, 1925, 1926, 1927, 1928, 1929, 1930, 1931, 1932, 1933, 1934, 1935, 1936, 1937, 1938, 1939, 1940, 1941, 1942, 1943, 1944] (by decide +kernel) (by decide +kernel)
set_option maxRecDepth 20000 in
theorem gL_law_X10_init : GoodIn wsL_law (wsX10_init) := ggL_law_X10_init
set_option maxRecDepth 20000 in
theorem ggL_law_X11_init : GoodIn wsL_law wsX11_init := goodIn_r _ [135, 136, 12, 13, 33, 137, 138, 139, 71, 140, 141, 142, 143, 144, 145, 146, 147, 148, 149, 150, 151, 152, 153, 1857, 1858, 1859, 1860, 1861, 1862, 1863, 1864, 1865, 1866, 1867, 1868, 1869, 1870, 1871, 1872, 1873, 1874, 1875, 1876, 1877, 1878, 1879, 1880, 1881, 1882, 1883, 1884, 1885, 1886] (by decide +kernel) (by decide +kernel)
set_option maxRecDepth 20000 in
theorem gL_law_X11_init : GoodIn wsL_law (wsX11_init) := ggL_law_X11_init
set_option maxRecDepth 20000 in
theorem ggL_law_L_append : GoodIn wsL_law wsL_append := goodIn_ca (goodIn_r _ [157, 158, 159, 160, 161, 2, 162, 163, 164, 20, 165, 166, 167, 19, 168, 169, 170, 171, 172, 173, 72, 1846, 1847, 1848, 1849, 1850, 1851, 1852, 1853, 1854, 1855, 1856, 1903, 1904] (by decide +kernel) (by decide +kernel)) (goodIn_sub (fun _ h => List.mem_append_left _ (List.mem_append_left _ (List.mem_append_left _ (List.mem_append_right _ h)))) (by decide +kernel))
set_option maxRecDepth 20000 in
theorem gL_law_L_append : GoodIn wsL_law (va_wsS RL 164 yL_append wsL_append) := goodIn_app (goodIn_of _ (by decide +kernel)) ggL_law_L_append
set_option maxRecDepth 20000 in
theorem ggL_law_X11_append : GoodIn wsL_law wsX11_append := goodIn_r _ [177, 178, 179, 180, 181, 5, 182, 183, 184, 185, 186, 187, 188, 189, 190, 191, 142, 1857, 1858, 1859, 1860, 1861, 1862, 1863, 1864, 1865, 1866, 1867, 1868, 1869, 1870, 1871, 1872, 1873, 1874, 1875, 1876, 1877, 1878, 1879, 1880, 1881, 1882, 1883, 1884, 1885, 1886] (by decide +kernel) (by decide +kernel)
set_option maxRecDepth 20000 in
theorem gL_law_X11_append : GoodIn wsL_law (wsV RL 169 RX11 yX11_append wsX11_append) := goodIn_app (goodIn_of _ (by decide +kernel)) ggL_law_X11_append
set_option maxRecDepth 20000 in
theorem ggL_law_X11_thrown : GoodIn wsL_law wsX11_thrown := goodIn_r _ [195, 187, 1857, 1858, 1859, 1860, 1861, 1862, 1863, 1864, 1865, 1866, 1867, 1868, 1869, 1870, 1871, 1872, 1873, 1874, 1875, 1876, 1877, 1878, 1879, 1880, 1881, 1882, 1883, 1884, 1885, 1886] (by decide +kernel) (by decide +kernel)
set_option maxRecDepth 20000 in
theorem gL_law_X11_thrown : GoodIn wsL_law (wsV RL 170 RX11 yX11_thrown wsX11_thrown) := goodIn_app (goodIn_of _ (by decide +kernel)) ggL_law_X11_thrown
set_option maxRecDepth 20000 in
theorem ggL_law_L_truncate : GoodIn wsL_law wsL_truncate := goodIn_ca (goodIn_r _ [198, 199, 200, 201, 202, 2, 203, 204, 205, 20, 206, 207, 208, 19, 209, 173, 1846, 1847, 1848, 1849, 1850, 1851, 1852, 1853, 1854, 1855, 1856, 1903, 1904] (by decide +kernel) (by decide +kernel)) (goodIn_sub (fun _ h => List.mem_append_left _ (List.mem_append_left _ (List.mem_append_right _ h))) (by decide +kernel))
set_option maxRecDepth 20000 in
theorem gL_law_L_truncate : GoodIn wsL_law (va_wsS RL 173 yL_truncate wsL_truncate) := goodIn_app (goodIn_of _ (by decide +kernel)) ggL_law_L_truncate
set_option maxRecDepth 20000 in
theorem ggL_law_X11_truncate : GoodIn wsL_law wsX11_truncate := goodIn_r _ [213, 178, 214, 215, 5, 216, 179, 180, 181, 182, 183, 184, 185, 186, 187, 1857, 1858, 1859, 1860, 1861, 1862, 1863, 1864, 1865, 1866, 1867, 1868, 1869, 1870, 1871, 1872, 1873, 1874, 1875, 1876, 1877, 1878, 1879, 1880, 1881, 1882, 1883, 1884, 1885, 1886] (by decide +kernel) (by decide +kernel)
set_option maxRecDepth 20000 in
theorem gL_law_X11_truncate : GoodIn wsL_law (wsV RL 176 RX11 yX11_truncate wsX11_truncate) := goodIn_app (goodIn_of _ (by decide +kernel)) ggL_law_X11_truncate
set_option maxRecDepth 20000 in
theorem ggL_law_X10_load : GoodIn wsL_law wsX10_load := goodIn_r _ [220, 221, 222, 223, 20, 224, 26, 30, 225, 226, 227, 228, 12, 13, 229, 230, 15, 16, 231, 232, 233, 36, 37, 38, 39, 40, 41, 42, 43, 33, 44, 45, 46, 47, 48, 49, 50, 51, 52, 53, 54, 55, 6, 56, 57, 58, 59, 60, 61, 62, 63, 64, 65, 234, 235, 236, 237, 238, 239, 240, 241, 242, 243, 244, 245, 246, 247, 248, 249, 250, 251, 252, 253, 254, 19, 255, 173, 72, 256, 257, 258, 259, 2, 260, 261, 262, 263, 264, 265, 266, 267, 268, 269, 270, 271, 272, 273, 274, 275, 276, 277, 278, 279, 280, 281, 282, 283, 284, 285, 286, 287, 288, 289, 290, 291, 292, 293, 294, 295, 296, 297, 298, 299, 300, 301, 302, 303, 304, 305, 306, 307, 308, 309, 310, 311, 312, 313, 314, 315, 316, 317, 318, 319, 320, 321, 322, 323, 324, 325, 326, 327, 328, 329, 330, 331, 332, 333, 334, 335, 336, 337, 338, 339, 340, 341, 342, 343, 344, 345, 346, 347, 348, 349, 350, 351, 352, 353, 354, 355, 356, 357, 358, 359, 360, 361, 362, 363, 364, 365, 366, 367, 368, 369, 370, 371, 372, 373, 374, 375, 376, 377, 378, 379, 380, 381, 382, 383, 384, 385, 386, 387, 388, 206, 207, 208, 209, 389, 390, 391, 392, 393, 394, 395, 396, 397, 398, 32, 399, 400, 401, 29, 402, 84, 403, 404, 405, 85, 406, 87, 88, 89, 90, 94, 98, 407, 408, 409, 410, 411, 412, 413, 414, 415, 416, 93, 417, 418, 419, 420, 111, 112, 113, 114, 421, 422, 423, 97, 424, 121, 122, 123, 425, 426, 427, 428, 429, 430, 431, 432, 433, 434, 435, 436, 437, 438, 439, 440, 441, 442, 1945, 1946, 1947, 1948, 1949, 1950, 1951, 1952, 1953, 1954, 1846, 1847, 1848, 1849, 1850, 1851, 1852, 1853, 1854, 1855, 1856, 1909, 1910, 1911, 1912, 1913, 1914, 1915, 1916, 1917, 1918, 1919, 1920, 1921, 1922, 1923, 1924, 1887, 1888, 1889, 1890, 1891, 1892, 1893, 1894, 1895, 1896, 1897, 1898, 1899, 1900, 1901, 1902, 1925, 1926, 1903, 1904, 1927, 1928, 1929, 1930, 1931, 1932, 1933, 1934, 1935, 1936, 1937, 1938, 1939] (by decide +kernel) (by decide +kernel)
set_option maxRecDepth 20000 in
theorem gL_law_X10_load : GoodIn wsL_law (wsV RL 177 RX10 yX10_load wsX10_load) := goodIn_app (goodIn_of _ (by decide +kernel)) ggL_law_X10_load
set_option maxRecDepth 20000 in
theorem ggL_law_X11_load : GoodIn wsL_law wsX11_load := goodIn_r _ [446, 187, 178, 447, 448, 449, 143, 138, 141, 450, 137, 451, 452, 453, 5, 454, 455, 456, 457, 458, 459, 460, 461, 462, 278, 63, 279, 463, 464, 465, 466, 142, 214, 215, 216, 467, 468, 469, 470, 471, 472, 473, 474, 475, 476, 477, 478, 479, 480, 481, 482, 483, 484, 485, 486, 487, 488, 489, 490, 491, 492, 493, 494, 495, 496, 497, 498, 499, 500, 501, 502, 503, 504, 505, 506, 507, 508, 509, 510, 511, 512, 513, 514, 515, 516, 517, 518, 519, 520, 521, 522, 523, 524, 525, 526, 527, 528, 529, 530, 531, 532, 533, 534, 535, 536, 537, 538, 539, 540, 541, 542, 543, 544, 545, 546, 547, 548, 549, 550, 551, 552, 553, 554, 555, 556, 557, 558, 559, 560, 561, 562, 563, 564, 565, 566, 567, 568, 569, 570, 571, 572, 573, 574, 575, 576, 577, 578, 579, 580, 581, 582, 583, 584, 585, 586, 587, 588, 589, 590, 591, 592, 593, 594, 595, 596, 597, 598, 599, 600, 601, 602, 603, 604, 605, 606, 607, 608, 609, 610, 611, 612, 613, 614, 150, 152, 139, 140, 1857, 1858, 1859, 1860, 1861, 1862, 1863, 1864, 1865, 1866, 1867, 1868, 1869, 1870, 1871, 1872, 1873, 1874, 1875, 1876, 1877, 1878, 1879, 1880, 1881, 1882, 1883, 1884, 1885, 1886] (by decide +kernel) (by decide +kernel)
set_option maxRecDepth 20000 in
theorem gL_law_X11_load : GoodIn wsL_law (wsV RL 180 RX11 yX11_load wsX11_load) := goodIn_app (goodIn_of _ (by decide +kernel)) ggL_law_X11_load
set_option maxRecDepth 20000 in
theorem ggL_law_X10_errorCode : GoodIn wsL_law wsX10_errorCode := goodIn_r _ [618, 224, 1846, 1847, 1848, 1849, 1850, 1851, 1852, 1853, 1854, 1855, 1856] (by decide +kernel) (by decide +kernel)
set_option maxRecDepth 20000 in
theorem gL_law_X10_errorCode : GoodIn wsL_law (wsV RL 181 RX10 yX10_errorCode wsX10_errorCode) := goodIn_app (goodIn_of _ (by decide +kernel)) ggL_law_X10_errorCode
set_option maxRecDepth 20000 in
theorem ggL_law_X11_errorCode : GoodIn wsL_law wsX11_errorCode := goodIn_r _ [622, 187, 449, 1857, 1858, 1859, 1860, 1861, 1862, 1863, 1864, 1865, 1866, 1867, 1868, 1869, 1870, 1871, 1872, 1873, 1874, 1875, 1876, 1877, 1878, 1879, 1880, 1881, 1882, 1883, 1884, 1885, 1886] (by decide +kernel) (by decide +kernel)
set_option maxRecDepth 20000 in
theorem gL_law_X11_errorCode : GoodIn wsL_law (wsV RL 184 RX11 yX11_errorCode wsX11_errorCode) := goodIn_app (goodIn_of _ (by decide +kernel)) ggL_law_X11_errorCode
set_option maxRecDepth 20000 in
theorem ggL_law_X10_errorPosition : GoodIn wsL_law wsX10_errorPosition := goodIn_r _ [626, 26, 1846, 1847, 1848, 1849, 1850, 1851, 1852, 1853, 1854, 1855, 1856] (by decide +kernel) (by decide +kernel)
set_option maxRecDepth 20000 in
theorem gL_law_X10_errorPosition : GoodIn wsL_law (wsV RL 185 RX10 yX10_errorPosition wsX10_errorPosition) := goodIn_app (goodIn_of _ (by decide +kernel)) ggL_law_X10_errorPosition
set_option maxRecDepth 20000 in
theorem ggL_law_X11_errorPosition : GoodIn wsL_law wsX11_errorPosition := goodIn_r _ [630, 187, 143, 1857, 1858, 1859, 1860, 1861, 1862, 1863, 1864, 1865, 1866, 1867, 1868, 1869, 1870, 1871, 1872, 1873, 1874, 1875, 1876, 1877, 1878, 1879, 1880, 1881, 1882, 1883, 1884, 1885, 1886] (by decide +kernel) (by decide +kernel)
set_option maxRecDepth 20000 in
theorem gL_law_X11_errorPosition : GoodIn wsL_law (wsV RL 188 RX11 yX11_errorPosition wsX11_errorPosition) := goodIn_app (goodIn_of _ (by decide +kernel)) ggL_law_X11_errorPosition
set_option maxRecDepth 20000 in
theorem ggL_law_L_find : GoodIn wsL_law wsL_find := goodIn_ca (goodIn_r _ [633, 199, 634, 635, 636, 2, 637, 30, 20, 638, 639, 640, 204, 205, 641, 642, 643, 16, 644, 43, 47, 50, 52, 645, 646, 647, 19, 648, 173, 649, 650, 253, 254, 255, 72, 259, 260, 265, 266, 267, 268, 269, 651, 331, 332, 42, 333, 320, 65, 206, 207, 208, 209, 1846, 1847, 1848, 1849, 1850, 1851, 1852, 1853, 1854, 1855, 1856, 1909, 1910, 1911, 1912, 1913, 1914, 1915, 1916, 1917, 1918, 1919, 1920, 1921, 1922, 1923, 1924, 1887, 1888, 1889, 1890, 1891, 1892, 1893, 1894, 1895, 1896, 1897, 1898, 1899, 1900, 1901, 1902, 1903, 1904, 1925, 1926] (by decide +kernel) (by decide +kernel)) (goodIn_sub (fun _ h => List.mem_append_left _ (List.mem_append_left _ (List.mem_append_right _ h))) (by decide +kernel))
set_option maxRecDepth 20000 in
theorem gL_law_L_find : GoodIn wsL_law (va_wsS RL 189 yL_find wsL_find) := goodIn_app (goodIn_of _ (by decide +kernel)) ggL_law_L_find
set_option maxRecDepth 20000 in
theorem ggL_law_X11_find : GoodIn wsL_law wsX11_find := goodIn_r _ [655, 656, 178, 214, 215, 5, 216, 179, 180, 181, 182, 183, 184, 185, 186, 187, 657, 658, 659, 660, 455, 448, 142, 456, 457, 572, 573, 574, 575, 141, 576, 577, 578, 579, 580, 581, 582, 583, 1857, 1858, 1859, 1860, 1861, 1862, 1863, 1864, 1865, 1866, 1867, 1868, 1869, 1870, 1871, 1872, 1873, 1874, 1875, 1876, 1877, 1878, 1879, 1880, 1881, 1882, 1883, 1884, 1885, 1886] (by decide +kernel) (by decide +kernel)
set_option maxRecDepth 20000 in
theorem gL_law_X11_find : GoodIn wsL_law (wsV RL 192 RX11 yX11_find wsX11_find) := goodIn_app (goodIn_of _ (by decide +kernel)) ggL_law_X11_find
set_option maxRecDepth 20000 in
theorem ggL_law_L_count : GoodIn wsL_law wsL_count := goodIn_ca (goodIn_r _ [663, 199, 664, 665, 666, 2, 667, 30, 638, 639, 640, 204, 205, 641, 642, 643, 16, 644, 43, 47, 50, 52, 1846, 1847, 1848, 1849, 1850, 1851, 1852, 1853, 1854, 1855, 1856, 1909, 1910, 1911, 1912, 1913, 1914, 1915, 1916, 1917, 1918, 1919, 1920, 1921, 1922, 1923, 1924, 1925, 1926, 1887, 1888, 1889, 1890, 1891, 1892, 1893, 1894, 1895, 1896, 1897, 1898, 1899, 1900, 1901, 1902] (by decide +kernel) (by decide +kernel)) (goodIn_sub (fun _ h => List.mem_append_left _ (List.mem_append_left _ (List.mem_append_right _ h))) (by decide +kernel))
set_option maxRecDepth 20000 in
theorem gL_law_L_count : GoodIn wsL_law (va_wsS RL 193 yL_count wsL_count) := goodIn_app (goodIn_of _ (by decide +kernel)) ggL_law_L_count
set_option maxRecDepth 20000 in
theorem ggL_law_X11_count : GoodIn wsL_law wsX11_count := goodIn_r _ [671, 656, 137, 214, 215, 5, 216, 179, 180, 181, 182, 183, 184, 185, 186, 187, 1857, 1858, 1859, 1860, 1861, 1862, 1863, 1864, 1865, 1866, 1867, 1868, 1869, 1870, 1871, 1872, 1873, 1874, 1875, 1876, 1877, 1878, 1879, 1880, 1881, 1882, 1883, 1884, 1885, 1886] (by decide +kernel) (by decide +kernel)
set_option maxRecDepth 20000 in
theorem gL_law_X11_count : GoodIn wsL_law (wsV RL 195 RX11 yX11_count wsX11_count) := goodIn_app (goodIn_of _ (by decide +kernel)) ggL_law_X11_count
set_option maxRecDepth 20000 in
theorem ggL_law_L_members : GoodIn wsL_law wsL_members := goodIn_ca (goodIn_r _ [674, 675, 676, 677, 678, 2, 679, 680, 681, 30, 682, 683, 684, 42, 685, 320, 686, 366, 367, 1846, 1847, 1848, 1849, 1850, 1851, 1852, 1853, 1854, 1855, 1856, 1909, 1910, 1911, 1912, 1913, 1914, 1915, 1916, 1917, 1918, 1919, 1920, 1921, 1922, 1923, 1924, 1887, 1888, 1889, 1890, 1891, 1892, 1893, 1894, 1895, 1896, 1897, 1898, 1899, 1900, 1901, 1902, 1925, 1926] (by decide +kernel) (by decide +kernel)) (goodIn_sub (fun _ h => List.mem_append_left _ (List.mem_append_right _ h)) (by decide +kernel))
set_option maxRecDepth 20000 in
theorem gL_law_L_members : GoodIn wsL_law (va_wsS RL 196 yL_members wsL_members) := goodIn_app (goodIn_of _ (by decide +kernel)) ggL_law_L_members
set_option maxRecDepth 20000 in
theorem ggL_law_X11_members : GoodIn wsL_law wsX11_members := goodIn_r _ [690, 137, 214, 215, 5, 216, 179, 180, 181, 182, 183, 184, 185, 186, 187, 1857, 1858, 1859, 1860, 1861, 1862, 1863, 1864, 1865, 1866, 1867, 1868, 1869, 1870, 1871, 1872, 1873, 1874, 1875, 1876, 1877, 1878, 1879, 1880, 1881, 1882, 1883, 1884, 1885, 1886] (by decide +kernel) (by decide +kernel)
set_option maxRecDepth 20000 in
theorem gL_law_X11_members : GoodIn wsL_law (wsV RL 198 RX11 yX11_members wsX11_members) := goodIn_app (goodIn_of _ (by decide +kernel)) ggL_law_X11_members
set_option maxRecDepth 20000 in
theorem ggL_law_L_retention : GoodIn wsL_law wsL_retention := goodIn_ca (goodIn_ca (goodIn_r _ [693, 675, 199, 694, 695, 696, 2, 697, 30, 698, 699, 700, 701, 680, 681, 682, 683, 684, 42, 685, 320, 702, 703, 704, 204, 205, 686, 366, 367, 1846, 1847, 1848, 1849, 1850, 1851, 1852, 1853, 1854, 1855, 1856, 1909, 1910, 1911, 1912, 1913, 1914, 1915, 1916, 1917, 1918, 1919, 1920, 1921, 1922, 1923, 1924, 1887, 1888, 1889, 1890, 1891, 1892, 1893, 1894, 1895, 1896, 1897, 1898, 1899, 1900, 1901, 1902, 1925, 1926] (by decide +kernel) (by decide +kernel)) (goodIn_sub (fun _ h => List.mem_append_left _ (List.mem_append_right _ h)) (by decide +kernel))) (goodIn_sub (fun _ h => List.mem_append_left _ (List.mem_append_left _ (List.mem_append_right _ h))) (by decide +kernel))
set_option maxRecDepth 20000 in
theorem gL_law_L_retention : GoodIn wsL_law (va_wsS RL 199 yL_retention wsL_retention) := goodIn_app (goodIn_of _ (by decide +kernel)) ggL_law_L_retention
set_option maxRecDepth 20000 in
theorem ggL_law_X11_retention : GoodIn wsL_law wsX11_retention := goodIn_r _ [708, 709, 710, 711, 712, 5, 713, 137, 214, 215, 216, 714, 715, 716, 717, 183, 184, 185, 186, 187, 718, 719, 720, 721, 1857, 1858, 1859, 1860, 1861, 1862, 1863, 1864, 1865, 1866, 1867, 1868, 1869, 1870, 1871, 1872, 1873, 1874, 1875, 1876, 1877, 1878, 1879, 1880, 1881, 1882, 1883, 1884, 1885, 1886] (by decide +kernel) (by decide +kernel)
set_option maxRecDepth 20000 in
theorem gL_law_X11_retention : GoodIn wsL_law (wsV RL 202 RX11 yX11_retention wsX11_retention) := goodIn_app (goodIn_of _ (by decide +kernel)) ggL_law_X11_retention
set_option maxRecDepth 20000 in
theorem ggL_law_L_ladderDays : GoodIn wsL_law wsL_ladderDays := goodIn_ca (goodIn_r _ [724, 675, 725, 726, 727, 2, 728, 30, 698, 699, 700, 701, 680, 681, 682, 683, 684, 42, 685, 320, 729, 730, 731, 16, 732, 44, 46, 366, 367, 1846, 1847, 1848, 1849, 1850, 1851, 1852, 1853, 1854, 1855, 1856, 1909, 1910, 1911, 1912, 1913, 1914, 1915, 1916, 1917, 1918, 1919, 1920, 1921, 1922, 1923, 1924, 1887, 1888, 1889, 1890, 1891, 1892, 1893, 1894, 1895, 1896, 1897, 1898, 1899, 1900, 1901, 1902, 1925, 1926] (by decide +kernel) (by decide +kernel)) (goodIn_sub (fun _ h => List.mem_append_left _ (List.mem_append_right _ h)) (by decide +kernel))
set_option maxRecDepth 20000 in
theorem gL_law_L_ladderDays : GoodIn wsL_law (va_wsS RL 203 yL_ladderDays wsL_ladderDays) := goodIn_app (goodIn_of _ (by decide +kernel)) ggL_law_L_ladderDays
set_option maxRecDepth 20000 in
theorem ggL_law_X11_ladderDays : GoodIn wsL_law wsX11_ladderDays := goodIn_r _ [736, 710, 711, 712, 5, 713, 137, 214, 215, 216, 179, 180, 181, 182, 183, 184, 185, 186, 187, 737, 738, 739, 740, 718, 719, 720, 721, 1857, 1858, 1859, 1860, 1861, 1862, 1863, 1864, 1865, 1866, 1867, 1868, 1869, 1870, 1871, 1872, 1873, 1874, 1875, 1876, 1877, 1878, 1879, 1880, 1881, 1882, 1883, 1884, 1885, 1886] (by decide +kernel) (by decide +kernel)
set_option maxRecDepth 20000 in
theorem gL_law_X11_ladderDays : GoodIn wsL_law (wsV RL 205 RX11 yX11_ladderDays wsX11_ladderDays) := goodIn_app (goodIn_of _ (by decide +kernel)) ggL_law_X11_ladderDays
set_option maxRecDepth 20000 in
theorem ggL_law_X10_day : GoodIn wsL_law wsX10_day := goodIn_r _ [744, 30, 1846, 1847, 1848, 1849, 1850, 1851, 1852, 1853, 1854, 1855, 1856, 1909, 1910, 1911, 1912, 1913, 1914, 1915, 1916, 1917, 1918, 1919, 1920, 1921, 1922, 1923, 1924] (by decide +kernel) (by decide +kernel)
set_option maxRecDepth 20000 in
theorem gL_law_X10_day : GoodIn wsL_law (wsV RL 206 RX10 yX10_day wsX10_day) := goodIn_app (goodIn_of _ (by decide +kernel)) ggL_law_X10_day
set_option maxRecDepth 20000 in
theorem ggL_law_X11_day : GoodIn wsL_law wsX11_day := goodIn_r _ [748, 187, 137, 1857, 1858, 1859, 1860, 1861, 1862, 1863, 1864, 1865, 1866, 1867, 1868, 1869, 1870, 1871, 1872, 1873, 1874, 1875, 1876, 1877, 1878, 1879, 1880, 1881, 1882, 1883, 1884, 1885, 1886] (by decide +kernel) (by decide +kernel)
set_option maxRecDepth 20000 in
theorem gL_law_X11_day : GoodIn wsL_law (wsV RL 209 RX11 yX11_day wsX11_day) := goodIn_app (goodIn_of _ (by decide +kernel)) ggL_law_X11_day
set_option maxRecDepth 20000 in
theorem ggL_law_L_deliver : GoodIn wsL_law wsL_deliver := goodIn_ca (goodIn_ca (goodIn_ca (goodIn_r _ [751, 675, 199, 158, 752, 753, 754, 2, 755, 680, 681, 204, 205, 163, 164, 30, 25, 20, 756, 757, 758, 759, 682, 683, 684, 42, 685, 320, 698, 699, 700, 701, 760, 761, 762, 16, 763, 47, 764, 765, 766, 24, 767, 768, 77, 78, 79, 769, 253, 254, 19, 255, 173, 72, 346, 347, 770, 771, 772, 93, 773, 774, 775, 776, 777, 418, 778, 779, 780, 781, 114, 782, 783, 784, 785, 366, 367, 786, 787, 788, 789, 111, 115, 790, 791, 792, 793, 794, 795, 796, 797, 798, 799, 800, 801, 802, 803, 804, 805, 806, 807, 808, 809, 810, 811, 812, 813, 650, 814, 389, 390, 391, 392, 393, 394, 395, 396, 397, 398, 32, 399, 400, 401, 29, 402, 84, 403, 404, 405, 85, 406, 87, 88, 89, 90, 94, 98, 407, 408, 409, 278, 63, 279, 410, 411, 412, 413, 414, 415, 416, 417, 419, 420, 112, 113, 421, 422, 423, 97, 424, 121, 122, 123, 425, 426, 815, 816, 817, 818, 86, 103, 104, 819, 820, 821, 822, 823, 824, 825, 826, 827, 828, 829, 830, 831, 832, 833, 834, 835, 836, 837, 838, 839, 840, 841, 105, 842, 843, 844, 845, 124, 125, 126, 127, 12, 13, 128, 129, 130, 131, 62, 64, 33, 132, 846, 847, 848, 849, 850, 851, 852, 853, 854, 18, 855, 67, 68, 69, 70, 71, 856, 857, 858, 859, 169, 170, 171, 172, 860, 861, 862, 863, 864, 865, 866, 867, 868, 869, 870, 871, 872, 56, 873, 874, 875, 876, 877, 878, 879, 880, 881, 259, 260, 265, 266, 267, 268, 269, 882, 883, 884, 885, 206, 207, 208, 209, 1846, 1847, 1848, 1849, 1850, 1851, 1852, 1853, 1854, 1855, 1856, 1909, 1910, 1911, 1912, 1913, 1914, 1915, 1916, 1917, 1918, 1919, 1920, 1921, 1922, 1923, 1924, 1887, 1888, 1889, 1890, 1891, 1892, 1893, 1894, 1895, 1896, 1897, 1898, 1899, 1900, 1901, 1902, 1925, 1926, 1905, 1906, 1907, 1908, 1903, 1904, 1927, 1928, 1929, 1930, 1931, 1932, 1933, 1934, 1935, 1936, 1937, 1938, 1939, 1940, 1941, 1942, 1943, 1944] (by decide +kernel) (by decide +kernel)) (goodIn_sub (fun _ h => List.mem_append_left _ (List.mem_append_right _ h)) (by decide +kernel))) (goodIn_sub (fun _ h => List.mem_append_left _ (List.mem_append_left _ (List.mem_append_right _ h))) (by decide +kernel))) (goodIn_sub (fun _ h => List.mem_append_left _ (List.mem_append_left _ (List.mem_append_left _ (List.mem_append_right _ h)))) (by decide +kernel))
set_option maxRecDepth 20000 in
theorem gL_law_L_deliver : GoodIn wsL_law (va_wsS RL 210 yL_deliver wsL_deliver) := goodIn_app (goodIn_of _ (by decide +kernel)) ggL_law_L_deliver
set_option maxRecDepth 20000 in
theorem ggL_law_X11_deliver : GoodIn wsL_law wsX11_deliver := goodIn_r _ [889, 137, 178, 890, 891, 892, 5, 893, 214, 215, 216, 894, 895, 896, 897, 898, 899, 900, 901, 710, 711, 712, 713, 902, 903, 904, 905, 906, 907, 908, 909, 910, 911, 145, 142, 912, 913, 914, 915, 916, 917, 918, 919, 920, 921, 922, 923, 924, 925, 926, 927, 928, 929, 930, 931, 932, 933, 934, 935, 936, 937, 938, 939, 140, 940, 941, 942, 943, 183, 184, 185, 186, 187, 609, 610, 611, 612, 613, 614, 150, 152, 139, 944, 945, 946, 947, 948, 949, 950, 951, 952, 953, 954, 955, 956, 957, 958, 959, 960, 961, 962, 963, 964, 965, 966, 967, 968, 969, 970, 971, 972, 973, 974, 975, 976, 977, 978, 979, 980, 981, 982, 983, 984, 985, 986, 987, 988, 989, 990, 991, 992, 993, 994, 1857, 1858, 1859, 1860, 1861, 1862, 1863, 1864, 1865, 1866, 1867, 1868, 1869, 1870, 1871, 1872, 1873, 1874, 1875, 1876, 1877, 1878, 1879, 1880, 1881, 1882, 1883, 1884, 1885, 1886] (by decide +kernel) (by decide +kernel)
set_option maxRecDepth 20000 in
theorem gL_law_X11_deliver : GoodIn wsL_law (wsV RL 213 RX11 yX11_deliver wsX11_deliver) := goodIn_app (goodIn_of _ (by decide +kernel)) ggL_law_X11_deliver
set_option maxRecDepth 20000 in
theorem ggL_law_X10_bounced : GoodIn wsL_law wsX10_bounced := goodIn_r _ [998, 30, 1846, 1847, 1848, 1849, 1850, 1851, 1852, 1853, 1854, 1855, 1856, 1909, 1910, 1911, 1912, 1913, 1914, 1915, 1916, 1917, 1918, 1919, 1920, 1921, 1922, 1923, 1924] (by decide +kernel) (by decide +kernel)
set_option maxRecDepth 20000 in
theorem gL_law_X10_bounced : GoodIn wsL_law (wsV RL 214 RX10 yX10_bounced wsX10_bounced) := goodIn_app (goodIn_of _ (by decide +kernel)) ggL_law_X10_bounced
set_option maxRecDepth 20000 in
theorem ggL_law_X11_bounced : GoodIn wsL_law wsX11_bounced := goodIn_r _ [1002, 187, 137, 1857, 1858, 1859, 1860, 1861, 1862, 1863, 1864, 1865, 1866, 1867, 1868, 1869, 1870, 1871, 1872, 1873, 1874, 1875, 1876, 1877, 1878, 1879, 1880, 1881, 1882, 1883, 1884, 1885, 1886] (by decide +kernel) (by decide +kernel)
set_option maxRecDepth 20000 in
theorem gL_law_X11_bounced : GoodIn wsL_law (wsV RL 217 RX11 yX11_bounced wsX11_bounced) := goodIn_app (goodIn_of _ (by decide +kernel)) ggL_law_X11_bounced
set_option maxRecDepth 20000 in
theorem ggL_law_X10_messageCount : GoodIn wsL_law wsX10_messageCount := goodIn_r _ [1006, 30, 1846, 1847, 1848, 1849, 1850, 1851, 1852, 1853, 1854, 1855, 1856, 1909, 1910, 1911, 1912, 1913, 1914, 1915, 1916, 1917, 1918, 1919, 1920, 1921, 1922, 1923, 1924] (by decide +kernel) (by decide +kernel)
set_option maxRecDepth 20000 in
theorem gL_law_X10_messageCount : GoodIn wsL_law (wsV RL 218 RX10 yX10_messageCount wsX10_messageCount) := goodIn_app (goodIn_of _ (by decide +kernel)) ggL_law_X10_messageCount
set_option maxRecDepth 20000 in
theorem ggL_law_X11_messageCount : GoodIn wsL_law wsX11_messageCount := goodIn_r _ [1010, 187, 137, 1857, 1858, 1859, 1860, 1861, 1862, 1863, 1864, 1865, 1866, 1867, 1868, 1869, 1870, 1871, 1872, 1873, 1874, 1875, 1876, 1877, 1878, 1879, 1880, 1881, 1882, 1883, 1884, 1885, 1886] (by decide +kernel) (by decide +kernel)
set_option maxRecDepth 20000 in
theorem gL_law_X11_messageCount : GoodIn wsL_law (wsV RL 221 RX11 yX11_messageCount wsX11_messageCount) := goodIn_app (goodIn_of _ (by decide +kernel)) ggL_law_X11_messageCount
set_option maxRecDepth 20000 in
theorem ggL_law_L_message : GoodIn wsL_law wsL_message := goodIn_ca (goodIn_ca (goodIn_r _ [1013, 675, 199, 1014, 1015, 1016, 2, 1017, 30, 1018, 1019, 1020, 1021, 680, 681, 702, 703, 704, 204, 205, 1022, 839, 840, 29, 841, 406, 87, 105, 1023, 1024, 1025, 1026, 84, 833, 834, 835, 836, 88, 837, 683, 684, 42, 685, 320, 366, 367, 1846, 1847, 1848, 1849, 1850, 1851, 1852, 1853, 1854, 1855, 1856, 1940, 1941, 1942, 1943, 1944, 1909, 1910, 1911, 1912, 1913, 1914, 1915, 1916, 1917, 1918, 1919, 1920, 1921, 1922, 1923, 1924, 1887, 1888, 1889, 1890, 1891, 1892, 1893, 1894, 1895, 1896, 1897, 1898, 1899, 1900, 1901, 1902, 1925, 1926] (by decide +kernel) (by decide +kernel)) (goodIn_sub (fun _ h => List.mem_append_left _ (List.mem_append_right _ h)) (by decide +kernel))) (goodIn_sub (fun _ h => List.mem_append_left _ (List.mem_append_left _ (List.mem_append_right _ h))) (by decide +kernel))
set_option maxRecDepth 20000 in
theorem gL_law_L_message : GoodIn wsL_law (va_wsS RL 222 yL_message wsL_message) := goodIn_app (goodIn_of _ (by decide +kernel)) ggL_law_L_message
set_option maxRecDepth 20000 in
theorem ggL_law_X11_message : GoodIn wsL_law wsX11_message := goodIn_r _ [1030, 1031, 1032, 1033, 1034, 5, 1035, 137, 214, 215, 216, 714, 715, 716, 717, 183, 184, 185, 186, 187, 970, 971, 972, 973, 966, 967, 968, 969, 928, 929, 930, 931, 1036, 1037, 1038, 1039, 709, 959, 960, 961, 962, 963, 964, 965, 1857, 1858, 1859, 1860, 1861, 1862, 1863, 1864, 1865, 1866, 1867, 1868, 1869, 1870, 1871, 1872, 1873, 1874, 1875, 1876, 1877, 1878, 1879, 1880, 1881, 1882, 1883, 1884, 1885, 1886] (by decide +kernel) (by decide +kernel)
set_option maxRecDepth 20000 in
theorem gL_law_X11_message : GoodIn wsL_law (wsV RL 224 RX11 yX11_message wsX11_message) := goodIn_app (goodIn_of _ (by decide +kernel)) ggL_law_X11_message
set_option maxRecDepth 20000 in
theorem ggL_law_L_partOf : GoodIn wsL_law wsL_partOf := goodIn_ca (goodIn_r _ [1042, 675, 1043, 1044, 1045, 2, 1046, 680, 681, 30, 1018, 1019, 1020, 1021, 1022, 839, 840, 29, 841, 406, 87, 105, 686, 366, 367, 1846, 1847, 1848, 1849, 1850, 1851, 1852, 1853, 1854, 1855, 1856, 1940, 1941, 1942, 1943, 1944, 1909, 1910, 1911, 1912, 1913, 1914, 1915, 1916, 1917, 1918, 1919, 1920, 1921, 1922, 1923, 1924] (by decide +kernel) (by decide +kernel)) (goodIn_sub (fun _ h => List.mem_append_left _ (List.mem_append_right _ h)) (by decide +kernel))
set_option maxRecDepth 20000 in
theorem gL_law_L_partOf : GoodIn wsL_law (va_wsS RL 225 yL_partOf wsL_partOf) := goodIn_app (goodIn_of _ (by decide +kernel)) ggL_law_L_partOf
set_option maxRecDepth 20000 in
theorem ggL_law_X11_partOf : GoodIn wsL_law wsX11_partOf := goodIn_r _ [1050, 1032, 1033, 1034, 5, 1035, 137, 214, 215, 216, 970, 971, 972, 973, 179, 180, 181, 182, 183, 184, 185, 186, 187, 1857, 1858, 1859, 1860, 1861, 1862, 1863, 1864, 1865, 1866, 1867, 1868, 1869, 1870, 1871, 1872, 1873, 1874, 1875, 1876, 1877, 1878, 1879, 1880, 1881, 1882, 1883, 1884, 1885, 1886] (by decide +kernel) (by decide +kernel)
set_option maxRecDepth 20000 in
theorem gL_law_X11_partOf : GoodIn wsL_law (wsV RL 227 RX11 yX11_partOf wsX11_partOf) := goodIn_app (goodIn_of _ (by decide +kernel)) ggL_law_X11_partOf
set_option maxRecDepth 20000 in
theorem ggL_law_L_readers : GoodIn wsL_law wsL_readers := goodIn_ca (goodIn_r _ [1053, 675, 1054, 1055, 1056, 2, 1057, 30, 1018, 1019, 1020, 1021, 680, 681, 1058, 1059, 1060, 29, 1061, 84, 833, 834, 835, 836, 406, 88, 837, 683, 684, 42, 685, 320, 366, 367, 1846, 1847, 1848, 1849, 1850, 1851, 1852, 1853, 1854, 1855, 1856, 1909, 1910, 1911, 1912, 1913, 1914, 1915, 1916, 1917, 1918, 1919, 1920, 1921, 1922, 1923, 1924, 1887, 1888, 1889, 1890, 1891, 1892, 1893, 1894, 1895, 1896, 1897, 1898, 1899, 1900, 1901, 1902, 1925, 1926] (by decide +kernel) (by decide +kernel)) (goodIn_sub (fun _ h => List.mem_append_left _ (List.mem_append_right _ h)) (by decide +kernel))
set_option maxRecDepth 20000 in
theorem gL_law_L_readers : GoodIn wsL_law (va_wsS RL 228 yL_readers wsL_readers) := goodIn_app (goodIn_of _ (by decide +kernel)) ggL_law_L_readers
set_option maxRecDepth 20000 in
theorem ggL_law_X11_readers : GoodIn wsL_law wsX11_readers := goodIn_r _ [1065, 137, 1032, 1033, 1034, 5, 1035, 214, 215, 216, 179, 180, 181, 182, 183, 184, 185, 186, 187, 955, 956, 957, 958, 959, 960, 961, 962, 963, 964, 965, 1857, 1858, 1859, 1860, 1861, 1862, 1863, 1864, 1865, 1866, 1867, 1868, 1869, 1870, 1871, 1872, 1873, 1874, 1875, 1876, 1877, 1878, 1879, 1880, 1881, 1882, 1883, 1884, 1885, 1886] (by decide +kernel) (by decide +kernel)
set_option maxRecDepth 20000 in
theorem gL_law_X11_readers : GoodIn wsL_law (wsV RL 230 RX11 yX11_readers wsX11_readers) := goodIn_app (goodIn_of _ (by decide +kernel)) ggL_law_X11_readers
set_option maxRecDepth 20000 in
theorem ggL_law_L_hidden : GoodIn wsL_law wsL_hidden := goodIn_ca (goodIn_r _ [1068, 675, 1069, 1070, 1071, 2, 1072, 30, 1018, 1019, 1020, 1021, 680, 681, 1058, 1059, 1060, 29, 1061, 84, 833, 834, 835, 836, 406, 88, 837, 683, 684, 42, 685, 320, 366, 367, 1846, 1847, 1848, 1849, 1850, 1851, 1852, 1853, 1854, 1855, 1856, 1909, 1910, 1911, 1912, 1913, 1914, 1915, 1916, 1917, 1918, 1919, 1920, 1921, 1922, 1923, 1924, 1887, 1888, 1889, 1890, 1891, 1892, 1893, 1894, 1895, 1896, 1897, 1898, 1899, 1900, 1901, 1902, 1925, 1926] (by decide +kernel) (by decide +kernel)) (goodIn_sub (fun _ h => List.mem_append_left _ (List.mem_append_right _ h)) (by decide +kernel))
set_option maxRecDepth 20000 in
theorem gL_law_L_hidden : GoodIn wsL_law (va_wsS RL 231 yL_hidden wsL_hidden) := goodIn_app (goodIn_of _ (by decide +kernel)) ggL_law_L_hidden
set_option maxRecDepth 20000 in
theorem ggL_law_X11_hidden : GoodIn wsL_law wsX11_hidden := goodIn_r _ [1076, 137, 1032, 1033, 1034, 5, 1035, 214, 215, 216, 179, 180, 181, 182, 183, 184, 185, 186, 187, 1077, 1078, 1079, 1080, 709, 959, 960, 961, 962, 963, 964, 965, 1857, 1858, 1859, 1860, 1861, 1862, 1863, 1864, 1865, 1866, 1867, 1868, 1869, 1870, 1871, 1872, 1873, 1874, 1875, 1876, 1877, 1878, 1879, 1880, 1881, 1882, 1883, 1884, 1885, 1886] (by decide +kernel) (by decide +kernel)
set_option maxRecDepth 20000 in
theorem gL_law_X11_hidden : GoodIn wsL_law (wsV RL 233 RX11 yX11_hidden wsX11_hidden) := goodIn_app (goodIn_of _ (by decide +kernel)) ggL_law_X11_hidden
set_option maxRecDepth 20000 in
theorem ggL_law_L_state : GoodIn wsL_law wsL_state := goodIn_ca (goodIn_r _ [1083, 675, 1084, 1085, 1086, 2, 1087, 30, 1088, 1089, 1090, 1091, 680, 681, 1092, 834, 835, 29, 836, 406, 84, 88, 837, 683, 684, 42, 685, 320, 366, 367, 1846, 1847, 1848, 1849, 1850, 1851, 1852, 1853, 1854, 1855, 1856, 1909, 1910, 1911, 1912, 1913, 1914, 1915, 1916, 1917, 1918, 1919, 1920, 1921, 1922, 1923, 1924, 1887, 1888, 1889, 1890, 1891, 1892, 1893, 1894, 1895, 1896, 1897, 1898, 1899, 1900, 1901, 1902, 1925, 1926] (by decide +kernel) (by decide +kernel)) (goodIn_sub (fun _ h => List.mem_append_left _ (List.mem_append_right _ h)) (by decide +kernel))
set_option maxRecDepth 20000 in
theorem gL_law_L_state : GoodIn wsL_law (va_wsS RL 234 yL_state wsL_state) := goodIn_app (goodIn_of _ (by decide +kernel)) ggL_law_L_state
set_option maxRecDepth 20000 in
theorem ggL_law_X11_state : GoodIn wsL_law wsX11_state := goodIn_r _ [1096, 1097, 1098, 1099, 5, 1100, 137, 1101, 1102, 1103, 1104, 1032, 1033, 1034, 1035, 214, 215, 216, 890, 891, 892, 893, 959, 960, 961, 962, 963, 964, 965, 179, 180, 181, 182, 183, 184, 185, 186, 187, 1857, 1858, 1859, 1860, 1861, 1862, 1863, 1864, 1865, 1866, 1867, 1868, 1869, 1870, 1871, 1872, 1873, 1874, 1875, 1876, 1877, 1878, 1879, 1880, 1881, 1882, 1883, 1884, 1885, 1886] (by decide +kernel) (by decide +kernel)
set_option maxRecDepth 20000 in
theorem gL_law_X11_state : GoodIn wsL_law (wsV RL 236 RX11 yX11_state wsX11_state) := goodIn_app (goodIn_of _ (by decide +kernel)) ggL_law_X11_state
set_option maxRecDepth 20000 in
theorem ggL_law_L_classOf : GoodIn wsL_law wsL_classOf := goodIn_ca (goodIn_r _ [1107, 675, 1108, 1109, 1110, 2, 1111, 30, 1088, 1089, 1090, 1091, 680, 681, 1092, 834, 835, 29, 836, 406, 84, 88, 837, 683, 684, 42, 685, 320, 366, 367, 1112, 1113, 1114, 1115, 89, 1846, 1847, 1848, 1849, 1850, 1851, 1852, 1853, 1854, 1855, 1856, 1909, 1910, 1911, 1912, 1913, 1914, 1915, 1916, 1917, 1918, 1919, 1920, 1921, 1922, 1923, 1924, 1887, 1888, 1889, 1890, 1891, 1892, 1893, 1894, 1895, 1896, 1897, 1898, 1899, 1900, 1901, 1902, 1925, 1926] (by decide +kernel) (by decide +kernel)) (goodIn_sub (fun _ h => List.mem_append_left _ (List.mem_append_right _ h)) (by decide +kernel))
set_option maxRecDepth 20000 in
theorem gL_law_L_classOf : GoodIn wsL_law (va_wsS RL 237 yL_classOf wsL_classOf) := goodIn_app (goodIn_of _ (by decide +kernel)) ggL_law_L_classOf
set_option maxRecDepth 20000 in
theorem ggL_law_X11_classOf : GoodIn wsL_law wsX11_classOf := goodIn_r _ [1119, 1097, 1098, 1099, 5, 1100, 137, 1101, 1102, 1103, 1104, 1032, 1033, 1034, 1035, 214, 215, 216, 890, 891, 892, 893, 959, 960, 961, 962, 963, 964, 965, 179, 180, 181, 182, 183, 184, 185, 186, 187, 1857, 1858, 1859, 1860, 1861, 1862, 1863, 1864, 1865, 1866, 1867, 1868, 1869, 1870, 1871, 1872, 1873, 1874, 1875, 1876, 1877, 1878, 1879, 1880, 1881, 1882, 1883, 1884, 1885, 1886] (by decide +kernel) (by decide +kernel)
set_option maxRecDepth 20000 in
theorem gL_law_X11_classOf : GoodIn wsL_law (wsV RL 239 RX11 yX11_classOf wsX11_classOf) := goodIn_app (goodIn_of _ (by decide +kernel)) ggL_law_X11_classOf
set_option maxRecDepth 20000 in
theorem ggL_law_L_enteredOn : GoodIn wsL_law wsL_enteredOn := goodIn_ca (goodIn_r _ [1122, 675, 1123, 1124, 1125, 2, 1126, 30, 1088, 1089, 1090, 1091, 680, 681, 1092, 834, 835, 29, 836, 406, 84, 88, 837, 683, 684, 42, 685, 320, 366, 367, 686, 1846, 1847, 1848, 1849, 1850, 1851, 1852, 1853, 1854, 1855, 1856, 1909, 1910, 1911, 1912, 1913, 1914, 1915, 1916, 1917, 1918, 1919, 1920, 1921, 1922, 1923, 1924, 1887, 1888, 1889, 1890, 1891, 1892, 1893, 1894, 1895, 1896, 1897, 1898, 1899, 1900, 1901, 1902, 1925, 1926] (by decide +kernel) (by decide +kernel)) (goodIn_sub (fun _ h => List.mem_append_left _ (List.mem_append_right _ h)) (by decide +kernel))
set_option maxRecDepth 20000 in
theorem gL_law_L_enteredOn : GoodIn wsL_law (va_wsS RL 240 yL_enteredOn wsL_enteredOn) := goodIn_app (goodIn_of _ (by decide +kernel)) ggL_law_L_enteredOn
set_option maxRecDepth 20000 in
theorem ggL_law_X11_enteredOn : GoodIn wsL_law wsX11_enteredOn := goodIn_r _ [1130, 1097, 1098, 1099, 5, 1100, 137, 1101, 1102, 1103, 1104, 1032, 1033, 1034, 1035, 214, 215, 216, 890, 891, 892, 893, 959, 960, 961, 962, 963, 964, 965, 179, 180, 181, 182, 183, 184, 185, 186, 187, 1857, 1858, 1859, 1860, 1861, 1862, 1863, 1864, 1865, 1866, 1867, 1868, 1869, 1870, 1871, 1872, 1873, 1874, 1875, 1876, 1877, 1878, 1879, 1880, 1881, 1882, 1883, 1884, 1885, 1886] (by decide +kernel) (by decide +kernel)
set_option maxRecDepth 20000 in
theorem gL_law_X11_enteredOn : GoodIn wsL_law (wsV RL 242 RX11 yX11_enteredOn wsX11_enteredOn) := goodIn_app (goodIn_of _ (by decide +kernel)) ggL_law_X11_enteredOn
set_option maxRecDepth 20000 in
theorem ggL_law_L_expiresOn : GoodIn wsL_law wsL_expiresOn := goodIn_ca (goodIn_r _ [1133, 675, 1134, 1135, 1136, 2, 1137, 30, 1088, 1089, 1090, 1091, 680, 681, 1092, 834, 835, 29, 836, 406, 84, 88, 837, 683, 684, 42, 685, 320, 366, 367, 1138, 1139, 1140, 1141, 90, 403, 1142, 62, 63, 64, 1143, 1113, 1114, 1115, 89, 1144, 730, 731, 16, 732, 44, 46, 833, 1846, 1847, 1848, 1849, 1850, 1851, 1852, 1853, 1854, 1855, 1856, 1909, 1910, 1911, 1912, 1913, 1914, 1915, 1916, 1917, 1918, 1919, 1920, 1921, 1922, 1923, 1924, 1887, 1888, 1889, 1890, 1891, 1892, 1893, 1894, 1895, 1896, 1897, 1898, 1899, 1900, 1901, 1902, 1925, 1926] (by decide +kernel) (by decide +kernel)) (goodIn_sub (fun _ h => List.mem_append_left _ (List.mem_append_right _ h)) (by decide +kernel))
set_option maxRecDepth 20000 in
theorem gL_law_L_expiresOn : GoodIn wsL_law (va_wsS RL 243 yL_expiresOn wsL_expiresOn) := goodIn_app (goodIn_of _ (by decide +kernel)) ggL_law_L_expiresOn
set_option maxRecDepth 20000 in
theorem ggL_law_X11_expiresOn : GoodIn wsL_law wsX11_expiresOn := goodIn_r _ [1148, 137, 1149, 62, 63, 64, 1101, 1102, 1103, 5, 1104, 1032, 1033, 1034, 1035, 214, 215, 216, 890, 891, 892, 893, 959, 960, 961, 962, 963, 964, 965, 179, 180, 181, 182, 183, 184, 185, 186, 187, 955, 956, 957, 958, 737, 738, 739, 740, 718, 719, 720, 721, 1857, 1858, 1859, 1860, 1861, 1862, 1863, 1864, 1865, 1866, 1867, 1868, 1869, 1870, 1871, 1872, 1873, 1874, 1875, 1876, 1877, 1878, 1879, 1880, 1881, 1882, 1883, 1884, 1885, 1886] (by decide +kernel) (by decide +kernel)
set_option maxRecDepth 20000 in
theorem gL_law_X11_expiresOn : GoodIn wsL_law (wsV RL 245 RX11 yX11_expiresOn wsX11_expiresOn) := goodIn_app (goodIn_of _ (by decide +kernel)) ggL_law_X11_expiresOn
set_option maxRecDepth 20000 in
theorem ggL_law_L_isKept : GoodIn wsL_law wsL_isKept := goodIn_ca (goodIn_r _ [1152, 675, 1153, 1154, 1155, 2, 1156, 30, 1088, 1089, 1090, 1091, 680, 681, 1092, 834, 835, 29, 836, 406, 84, 88, 837, 683, 684, 42, 685, 320, 366, 367, 1157, 1158, 1159, 1160, 1143, 1113, 1114, 1115, 89, 833, 1161, 1162, 1163, 1164, 1846, 1847, 1848, 1849, 1850, 1851, 1852, 1853, 1854, 1855, 1856, 1909, 1910, 1911, 1912, 1913, 1914, 1915, 1916, 1917, 1918, 1919, 1920, 1921, 1922, 1923, 1924, 1887, 1888, 1889, 1890, 1891, 1892, 1893, 1894, 1895, 1896, 1897, 1898, 1899, 1900, 1901, 1902, 1925, 1926] (by decide +kernel) (by decide +kernel)) (goodIn_sub (fun _ h => List.mem_append_left _ (List.mem_append_right _ h)) (by decide +kernel))
set_option maxRecDepth 20000 in
theorem gL_law_L_isKept : GoodIn wsL_law (va_wsS RL 246 yL_isKept wsL_isKept) := goodIn_app (goodIn_of _ (by decide +kernel)) ggL_law_L_isKept
set_option maxRecDepth 20000 in
theorem ggL_law_X11_isKept : GoodIn wsL_law wsX11_isKept := goodIn_r _ [1168, 1101, 1102, 1103, 5, 1104, 1032, 1033, 1034, 1035, 137, 214, 215, 216, 890, 891, 892, 893, 959, 960, 961, 962, 963, 964, 965, 179, 180, 181, 182, 183, 184, 185, 186, 187, 955, 956, 957, 958, 1169, 1170, 1171, 1172, 718, 719, 720, 721, 1857, 1858, 1859, 1860, 1861, 1862, 1863, 1864, 1865, 1866, 1867, 1868, 1869, 1870, 1871, 1872, 1873, 1874, 1875, 1876, 1877, 1878, 1879, 1880, 1881, 1882, 1883, 1884, 1885, 1886] (by decide +kernel) (by decide +kernel)
set_option maxRecDepth 20000 in
theorem gL_law_X11_isKept : GoodIn wsL_law (wsV RL 248 RX11 yX11_isKept wsX11_isKept) := goodIn_app (goodIn_of _ (by decide +kernel)) ggL_law_X11_isKept
set_option maxRecDepth 20000 in
theorem ggL_law_L_holdsOn : GoodIn wsL_law wsL_holdsOn := goodIn_ca (goodIn_r _ [1175, 675, 1176, 1177, 1178, 2, 1179, 30, 1088, 1089, 1090, 1091, 680, 681, 1092, 834, 835, 29, 836, 406, 84, 88, 837, 683, 684, 42, 685, 320, 366, 367, 1180, 1181, 1182, 1183, 405, 838, 839, 840, 841, 87, 105, 1184, 1185, 1186, 16, 1187, 52, 53, 1846, 1847, 1848, 1849, 1850, 1851, 1852, 1853, 1854, 1855, 1856, 1909, 1910, 1911, 1912, 1913, 1914, 1915, 1916, 1917, 1918, 1919, 1920, 1921, 1922, 1923, 1924, 1887, 1888, 1889, 1890, 1891, 1892, 1893, 1894, 1895, 1896, 1897, 1898, 1899, 1900, 1901, 1902, 1925, 1926, 1940, 1941, 1942, 1943, 1944] (by decide +kernel) (by decide +kernel)) (goodIn_sub (fun _ h => List.mem_append_left _ (List.mem_append_right _ h)) (by decide +kernel))
set_option maxRecDepth 20000 in
theorem gL_law_L_holdsOn : GoodIn wsL_law (va_wsS RL 249 yL_holdsOn wsL_holdsOn) := goodIn_app (goodIn_of _ (by decide +kernel)) ggL_law_L_holdsOn
set_option maxRecDepth 20000 in
theorem ggL_law_X11_holdsOn : GoodIn wsL_law wsX11_holdsOn := goodIn_r _ [1191, 1101, 1102, 1103, 5, 1104, 1032, 1033, 1034, 1035, 137, 214, 215, 216, 890, 891, 892, 893, 959, 960, 961, 962, 963, 964, 965, 179, 180, 181, 182, 183, 184, 185, 186, 187, 1192, 1193, 1194, 1195, 1196, 1197, 1198, 1199, 1200, 144, 1201, 1202, 1203, 1204, 970, 971, 972, 973, 1205, 1206, 1207, 1208, 928, 929, 930, 931, 1209, 1210, 1211, 1212, 1213, 1214, 1215, 1216, 456, 457, 936, 937, 938, 939, 140, 1857, 1858, 1859, 1860, 1861, 1862, 1863, 1864, 1865, 1866, 1867, 1868, 1869, 1870, 1871, 1872, 1873, 1874, 1875, 1876, 1877, 1878, 1879, 1880, 1881, 1882, 1883, 1884, 1885, 1886] (by decide +kernel) (by decide +kernel)
set_option maxRecDepth 20000 in
theorem gL_law_X11_holdsOn : GoodIn wsL_law (wsV RL 251 RX11 yX11_holdsOn wsX11_holdsOn) := goodIn_app (goodIn_of _ (by decide +kernel)) ggL_law_X11_holdsOn
set_option maxRecDepth 20000 in
theorem ggL_law_X10_storedParts : GoodIn wsL_law wsX10_storedParts := goodIn_r _ [1220, 30, 1846, 1847, 1848, 1849, 1850, 1851, 1852, 1853, 1854, 1855, 1856, 1909, 1910, 1911, 1912, 1913, 1914, 1915, 1916, 1917, 1918, 1919, 1920, 1921, 1922, 1923, 1924, 1927, 1928, 1929, 1930, 1931, 1932, 1933, 1934] (by decide +kernel) (by decide +kernel)
set_option maxRecDepth 20000 in
theorem gL_law_X10_storedParts : GoodIn wsL_law (wsV RL 252 RX10 yX10_storedParts wsX10_storedParts) := goodIn_app (goodIn_of _ (by decide +kernel)) ggL_law_X10_storedParts
set_option maxRecDepth 20000 in
theorem ggL_law_X11_storedParts : GoodIn wsL_law wsX11_storedParts := goodIn_r _ [1224, 187, 137, 924, 925, 926, 5, 927, 214, 215, 216, 928, 929, 930, 931, 1857, 1858, 1859, 1860, 1861, 1862, 1863, 1864, 1865, 1866, 1867, 1868, 1869, 1870, 1871, 1872, 1873, 1874, 1875, 1876, 1877, 1878, 1879, 1880, 1881, 1882, 1883, 1884, 1885, 1886] (by decide +kernel) (by decide +kernel)
set_option maxRecDepth 20000 in
theorem gL_law_X11_storedParts : GoodIn wsL_law (wsV RL 255 RX11 yX11_storedParts wsX11_storedParts) := goodIn_app (goodIn_of _ (by decide +kernel)) ggL_law_X11_storedParts
set_option maxRecDepth 20000 in
theorem ggL_law_L_storedPart : GoodIn wsL_law wsL_storedPart := goodIn_ca (goodIn_r _ [1227, 675, 1228, 1229, 1230, 2, 1231, 680, 681, 30, 1232, 1233, 1234, 93, 1235, 418, 782, 783, 784, 785, 114, 366, 367, 1846, 1847, 1848, 1849, 1850, 1851, 1852, 1853, 1854, 1855, 1856, 1909, 1910, 1911, 1912, 1913, 1914, 1915, 1916, 1917, 1918, 1919, 1920, 1921, 1922, 1923, 1924, 1927, 1928, 1929, 1930, 1931, 1932, 1933, 1934] (by decide +kernel) (by decide +kernel)) (goodIn_sub (fun _ h => List.mem_append_left _ (List.mem_append_right _ h)) (by decide +kernel))
set_option maxRecDepth 20000 in
theorem gL_law_L_storedPart : GoodIn wsL_law (va_wsS RL 256 yL_storedPart wsL_storedPart) := goodIn_app (goodIn_of _ (by decide +kernel)) ggL_law_L_storedPart
set_option maxRecDepth 20000 in
theorem ggL_law_X11_storedPart : GoodIn wsL_law wsX11_storedPart := goodIn_r _ [1239, 137, 187, 924, 925, 926, 5, 927, 214, 215, 216, 928, 929, 930, 931, 1857, 1858, 1859, 1860, 1861, 1862, 1863, 1864, 1865, 1866, 1867, 1868, 1869, 1870, 1871, 1872, 1873, 1874, 1875, 1876, 1877, 1878, 1879, 1880, 1881, 1882, 1883, 1884, 1885, 1886] (by decide +kernel) (by decide +kernel)
set_option maxRecDepth 20000 in
theorem gL_law_X11_storedPart : GoodIn wsL_law (wsV RL 258 RX11 yX11_storedPart wsX11_storedPart) := goodIn_app (goodIn_of _ (by decide +kernel)) ggL_law_X11_storedPart
set_option maxRecDepth 20000 in
theorem ggL_law_L_part : GoodIn wsL_law wsL_part := goodIn_ca (goodIn_ca (goodIn_r _ [1242, 675, 199, 1243, 1244, 1245, 2, 1246, 30, 1247, 1248, 1249, 1250, 680, 681, 1251, 783, 784, 93, 785, 418, 114, 366, 367, 702, 703, 704, 204, 205, 1252, 787, 788, 789, 111, 115, 686, 1846, 1847, 1848, 1849, 1850, 1851, 1852, 1853, 1854, 1855, 1856, 1909, 1910, 1911, 1912, 1913, 1914, 1915, 1916, 1917, 1918, 1919, 1920, 1921, 1922, 1923, 1924, 1903, 1904, 1927, 1928, 1929, 1930, 1931, 1932, 1933, 1934] (by decide +kernel) (by decide +kernel)) (goodIn_sub (fun _ h => List.mem_append_left _ (List.mem_append_right _ h)) (by decide +kernel))) (goodIn_sub (fun _ h => List.mem_append_left _ (List.mem_append_left _ (List.mem_append_right _ h))) (by decide +kernel))
set_option maxRecDepth 20000 in
theorem gL_law_L_part : GoodIn wsL_law (va_wsS RL 259 yL_part wsL_part) := goodIn_app (goodIn_of _ (by decide +kernel)) ggL_law_L_part
set_option maxRecDepth 20000 in
theorem ggL_law_X11_part : GoodIn wsL_law wsX11_part := goodIn_r _ [1256, 656, 924, 925, 926, 5, 927, 137, 214, 215, 216, 928, 929, 930, 931, 714, 715, 716, 717, 183, 184, 185, 186, 187, 1257, 1258, 1259, 1260, 1261, 1262, 1263, 1264, 970, 971, 972, 973, 1036, 1037, 1038, 1039, 709, 959, 960, 961, 962, 963, 964, 965, 1265, 1266, 1267, 1268, 1857, 1858, 1859, 1860, 1861, 1862, 1863, 1864, 1865, 1866, 1867, 1868, 1869, 1870, 1871, 1872, 1873, 1874, 1875, 1876, 1877, 1878, 1879, 1880, 1881, 1882, 1883, 1884, 1885, 1886] (by decide +kernel) (by decide +kernel)
set_option maxRecDepth 20000 in
theorem gL_law_X11_part : GoodIn wsL_law (wsV RL 261 RX11 yX11_part wsX11_part) := goodIn_app (goodIn_of _ (by decide +kernel)) ggL_law_X11_part
set_option maxRecDepth 20000 in
theorem ggL_law_L_partByte : GoodIn wsL_law wsL_partByte := goodIn_ca (goodIn_ca (goodIn_r _ [1271, 675, 1272, 1273, 1274, 1275, 2, 1276, 1277, 1278, 30, 1247, 1248, 1249, 1250, 680, 681, 1251, 783, 784, 93, 785, 418, 114, 366, 367, 1252, 787, 788, 789, 111, 115, 1279, 253, 254, 19, 255, 173, 72, 1846, 1847, 1848, 1849, 1850, 1851, 1852, 1853, 1854, 1855, 1856, 1909, 1910, 1911, 1912, 1913, 1914, 1915, 1916, 1917, 1918, 1919, 1920, 1921, 1922, 1923, 1924, 1903, 1904, 1927, 1928, 1929, 1930, 1931, 1932, 1933, 1934] (by decide +kernel) (by decide +kernel)) (goodIn_sub (fun _ h => List.mem_append_right _ h) (by decide +kernel))) (goodIn_sub (fun _ h => List.mem_append_left _ (List.mem_append_right _ h)) (by decide +kernel))
set_option maxRecDepth 20000 in
theorem gL_law_L_partByte : GoodIn wsL_law (va_wsS RL 262 yL_partByte wsL_partByte) := goodIn_app (goodIn_of _ (by decide +kernel)) ggL_law_L_partByte
set_option maxRecDepth 20000 in
theorem ggL_law_X11_partByte : GoodIn wsL_law wsX11_partByte := goodIn_r _ [1283, 924, 925, 926, 5, 927, 137, 214, 215, 216, 928, 929, 930, 931, 714, 715, 716, 717, 183, 184, 185, 186, 187, 936, 937, 938, 939, 140, 1857, 1858, 1859, 1860, 1861, 1862, 1863, 1864, 1865, 1866, 1867, 1868, 1869, 1870, 1871, 1872, 1873, 1874, 1875, 1876, 1877, 1878, 1879, 1880, 1881, 1882, 1883, 1884, 1885, 1886] (by decide +kernel) (by decide +kernel)
set_option maxRecDepth 20000 in
theorem gL_law_X11_partByte : GoodIn wsL_law (wsV RL 264 RX11 yX11_partByte wsX11_partByte) := goodIn_app (goodIn_of _ (by decide +kernel)) ggL_law_X11_partByte
set_option maxRecDepth 20000 in
theorem ggL_law_L_digest : GoodIn wsL_law wsL_digest := goodIn_ca (goodIn_r _ [1286, 675, 1287, 1288, 1289, 2, 1290, 30, 1247, 1248, 1249, 1250, 680, 681, 1251, 783, 784, 93, 785, 418, 114, 366, 367, 1252, 787, 788, 789, 111, 115, 1291, 1292, 1293, 19, 1294, 1295, 173, 1296, 650, 253, 254, 255, 72, 1846, 1847, 1848, 1849, 1850, 1851, 1852, 1853, 1854, 1855, 1856, 1909, 1910, 1911, 1912, 1913, 1914, 1915, 1916, 1917, 1918, 1919, 1920, 1921, 1922, 1923, 1924, 1927, 1928, 1929, 1930, 1931, 1932, 1933, 1934, 1903, 1904] (by decide +kernel) (by decide +kernel)) (goodIn_sub (fun _ h => List.mem_append_left _ (List.mem_append_right _ h)) (by decide +kernel))
set_option maxRecDepth 20000 in
theorem gL_law_L_digest : GoodIn wsL_law (va_wsS RL 265 yL_digest wsL_digest) := goodIn_app (goodIn_of _ (by decide +kernel)) ggL_law_L_digest
set_option maxRecDepth 20000 in
theorem ggL_law_X11_digest : GoodIn wsL_law wsX11_digest := goodIn_r _ [1300, 1301, 1302, 924, 925, 926, 5, 927, 137, 214, 215, 216, 928, 929, 930, 931, 179, 180, 181, 182, 183, 184, 185, 186, 187, 936, 937, 938, 939, 140, 1857, 1858, 1859, 1860, 1861, 1862, 1863, 1864, 1865, 1866, 1867, 1868, 1869, 1870, 1871, 1872, 1873, 1874, 1875, 1876, 1877, 1878, 1879, 1880, 1881, 1882, 1883, 1884, 1885, 1886] (by decide +kernel) (by decide +kernel)
set_option maxRecDepth 20000 in
theorem gL_law_X11_digest : GoodIn wsL_law (wsV RL 267 RX11 yX11_digest wsX11_digest) := goodIn_app (goodIn_of _ (by decide +kernel)) ggL_law_X11_digest
