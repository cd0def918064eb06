theorem dL_law__1681 : decode cL_law_ 1681 = .ok (.ireturn, 1) := by decide +kernel
theorem dL_law__1682 : decode cL_law_ 1682 = .ok (.goto 825, 3) := by decide +kernel
theorem dL_law__1685 : decode cL_law_ 1685 = .ok (.aload_n 1, 1) := by decide +kernel
theorem dL_law__1686 : decode cL_law_ 1686 = .ok (.aload_n 0, 1) := by decide +kernel
theorem dL_law__1687 : decode cL_law_ 1687 = .ok (.iload 4, 2) := by decide +kernel
theorem dL_law__1689 : decode cL_law_ 1689 = .ok (.iconst 1, 1) := by decide +kernel
theorem dL_law__1690 : decode cL_law_ 1690 = .ok (.iadd, 1) := by decide +kernel
theorem dL_law__1691 : decode cL_law_ 1691 = .ok (.iaload, 1) := by decide +kernel
theorem dL_law__1692 : decode cL_law_ 1692 = .ok (.aload_n 3, 1) := by decide +kernel
theorem dL_law__1693 : decode cL_law_ 1693 = .ok (.invokestatic 203, 3) := by decide +kernel
theorem dL_law__1696 : decode cL_law_ 1696 = .ok (.istore 5, 2) := by decide +kernel
theorem dL_law__1698 : decode cL_law_ 1698 = .ok (.aload_n 2, 1) := by decide +kernel
theorem dL_law__1699 : decode cL_law_ 1699 = .ok (.aload_n 0, 1) := by decide +kernel
theorem dL_law__1700 : decode cL_law_ 1700 = .ok (.iload 4, 2) := by decide +kernel
theorem dL_law__1702 : decode cL_law_ 1702 = .ok (.iconst 1, 1) := by decide +kernel
theorem dL_law__1703 : decode cL_law_ 1703 = .ok (.iadd, 1) := by decide +kernel
theorem dL_law__1704 : decode cL_law_ 1704 = .ok (.iaload, 1) := by decide +kernel
theorem dL_law__1705 : decode cL_law_ 1705 = .ok (.invokevirtual 205, 3) := by decide +kernel
theorem dL_law__1708 : decode cL_law_ 1708 = .ok (.istore 6, 2) := by decide +kernel
theorem dL_law__1710 : decode cL_law_ 1710 = .ok (.aload_n 2, 1) := by decide +kernel
theorem dL_law__1711 : decode cL_law_ 1711 = .ok (.invokevirtual 125, 3) := by decide +kernel
theorem dL_law__1714 : decode cL_law_ 1714 = .ok (.iload 5, 2) := by decide +kernel
theorem dL_law__1716 : decode cL_law_ 1716 = .ok (.if_icmp .eq 5, 3) := by decide +kernel
theorem dL_law__1719 : decode cL_law_ 1719 = .ok (.iconst 0, 1) := by decide +kernel
theorem dL_law__1720 : decode cL_law_ 1720 = .ok (.ireturn, 1) := by decide +kernel
theorem dL_law__1721 : decode cL_law_ 1721 = .ok (.iload 5, 2) := by decide +kernel
theorem dL_law__1723 : decode cL_law_ 1723 = .ok (.ifCond .ne 15, 3) := by decide +kernel
theorem dL_law__1726 : decode cL_law_ 1726 = .ok (.aload_n 3, 1) := by decide +kernel
theorem dL_law__1727 : decode cL_law_ 1727 = .ok (.iconst 0, 1) := by decide +kernel
theorem dL_law__1728 : decode cL_law_ 1728 = .ok (.laload, 1) := by decide +kernel
theorem dL_law__1729 : decode cL_law_ 1729 = .ok (.iload 6, 2) := by decide +kernel
theorem dL_law__1731 : decode cL_law_ 1731 = .ok (.i2l, 1) := by decide +kernel
theorem dL_law__1732 : decode cL_law_ 1732 = .ok (.lcmp, 1) := by decide +kernel
theorem dL_law__1733 : decode cL_law_ 1733 = .ok (.ifCond .eq 5, 3) := by decide +kernel
theorem dL_law__1736 : decode cL_law_ 1736 = .ok (.iconst 0, 1) := by decide +kernel
theorem dL_law__1737 : decode cL_law_ 1737 = .ok (.ireturn, 1) := by decide +kernel
theorem dL_law__1738 : decode cL_law_ 1738 = .ok (.goto 769, 3) := by decide +kernel
theorem dL_law__1741 : decode cL_law_ 1741 = .ok (.aload_n 1, 1) := by decide +kernel
theorem dL_law__1742 : decode cL_law_ 1742 = .ok (.aload_n 0, 1) := by decide +kernel
theorem dL_law__1743 : decode cL_law_ 1743 = .ok (.iload 4, 2) := by decide +kernel
theorem dL_law__1745 : decode cL_law_ 1745 = .ok (.iconst 1, 1) := by decide +kernel
theorem dL_law__1746 : decode cL_law_ 1746 = .ok (.iadd, 1) := by decide +kernel
theorem dL_law__1747 : decode cL_law_ 1747 = .ok (.iaload, 1) := by decide +kernel
theorem dL_law__1748 : decode cL_law_ 1748 = .ok (.aload_n 0, 1) := by decide +kernel
theorem dL_law__1749 : decode cL_law_ 1749 = .ok (.iload 4, 2) := by decide +kernel
theorem dL_law__1751 : decode cL_law_ 1751 = .ok (.iconst 2, 1) := by decide +kernel
theorem dL_law__1752 : decode cL_law_ 1752 = .ok (.iadd, 1) := by decide +kernel
theorem dL_law__1753 : decode cL_law_ 1753 = .ok (.iaload, 1) := by decide +kernel
theorem dL_law__1754 : decode cL_law_ 1754 = .ok (.aload_n 3, 1) := by decide +kernel
theorem dL_law__1755 : decode cL_law_ 1755 = .ok (.invokestatic 206, 3) := by decide +kernel
theorem dL_law__1758 : decode cL_law_ 1758 = .ok (.istore 5, 2) := by decide +kernel
theorem dL_law__1760 : decode cL_law_ 1760 = .ok (.aload_n 2, 1) := by decide +kernel
theorem dL_law__1761 : decode cL_law_ 1761 = .ok (.aload_n 0, 1) := by decide +kernel
theorem dL_law__1762 : decode cL_law_ 1762 = .ok (.iload 4, 2) := by decide +kernel
theorem dL_law__1764 : decode cL_law_ 1764 = .ok (.iconst 1, 1) := by decide +kernel
theorem dL_law__1765 : decode cL_law_ 1765 = .ok (.iadd, 1) := by decide +kernel
theorem dL_law__1766 : decode cL_law_ 1766 = .ok (.iaload, 1) := by decide +kernel
theorem dL_law__1767 : decode cL_law_ 1767 = .ok (.aload_n 0, 1) := by decide +kernel
theorem dL_law__1768 : decode cL_law_ 1768 = .ok (.iload 4, 2) := by decide +kernel
theorem dL_law__1770 : decode cL_law_ 1770 = .ok (.iconst 2, 1) := by decide +kernel
theorem dL_law__1771 : decode cL_law_ 1771 = .ok (.iadd, 1) := by decide +kernel
theorem dL_law__1772 : decode cL_law_ 1772 = .ok (.iaload, 1) := by decide +kernel
theorem dL_law__1773 : decode cL_law_ 1773 = .ok (.invokevirtual 208, 3) := by decide +kernel
theorem dL_law__1776 : decode cL_law_ 1776 = .ok (.istore 6, 2) := by decide +kernel
theorem dL_law__1778 : decode cL_law_ 1778 = .ok (.aload_n 2, 1) := by decide +kernel
theorem dL_law__1779 : decode cL_law_ 1779 = .ok (.invokevirtual 125, 3) := by decide +kernel
theorem dL_law__1782 : decode cL_law_ 1782 = .ok (.iload 5, 2) := by decide +kernel
theorem dL_law__1784 : decode cL_law_ 1784 = .ok (.if_icmp .eq 5, 3) := by decide +kernel
theorem dL_law__1787 : decode cL_law_ 1787 = .ok (.iconst 0, 1) := by decide +kernel
theorem dL_law__1788 : decode cL_law_ 1788 = .ok (.ireturn, 1) := by decide +kernel
theorem dL_law__1789 : decode cL_law_ 1789 = .ok (.iload 5, 2) := by decide +kernel
theorem dL_law__1791 : decode cL_law_ 1791 = .ok (.ifCond .ne 15, 3) := by decide +kernel
theorem dL_law__1794 : decode cL_law_ 1794 = .ok (.aload_n 3, 1) := by decide +kernel
theorem dL_law__1795 : decode cL_law_ 1795 = .ok (.iconst 0, 1) := by decide +kernel
theorem dL_law__1796 : decode cL_law_ 1796 = .ok (.laload, 1) := by decide +kernel
theorem dL_law__1797 : decode cL_law_ 1797 = .ok (.iload 6, 2) := by decide +kernel
theorem dL_law__1799 : decode cL_law_ 1799 = .ok (.i2l, 1) := by decide +kernel
theorem dL_law__1800 : decode cL_law_ 1800 = .ok (.lcmp, 1) := by decide +kernel
theorem dL_law__1801 : decode cL_law_ 1801 = .ok (.ifCond .eq 5, 3) := by decide +kernel
theorem dL_law__1804 : decode cL_law_ 1804 = .ok (.iconst 0, 1) := by decide +kernel
theorem dL_law__1805 : decode cL_law_ 1805 = .ok (.ireturn, 1) := by decide +kernel
theorem dL_law__1806 : decode cL_law_ 1806 = .ok (.goto 701, 3) := by decide +kernel
theorem dL_law__1809 : decode cL_law_ 1809 = .ok (.aload_n 1, 1) := by decide +kernel
theorem dL_law__1810 : decode cL_law_ 1810 = .ok (.aload_n 0, 1) := by decide +kernel
theorem dL_law__1811 : decode cL_law_ 1811 = .ok (.iload 4, 2) := by decide +kernel
theorem dL_law__1813 : decode cL_law_ 1813 = .ok (.iconst 1, 1) := by decide +kernel
theorem dL_law__1814 : decode cL_law_ 1814 = .ok (.iadd, 1) := by decide +kernel
theorem dL_law__1815 : decode cL_law_ 1815 = .ok (.iaload, 1) := by decide +kernel
theorem dL_law__1816 : decode cL_law_ 1816 = .ok (.aload_n 0, 1) := by decide +kernel
theorem dL_law__1817 : decode cL_law_ 1817 = .ok (.iload 4, 2) := by decide +kernel
theorem dL_law__1819 : decode cL_law_ 1819 = .ok (.iconst 2, 1) := by decide +kernel
theorem dL_law__1820 : decode cL_law_ 1820 = .ok (.iadd, 1) := by decide +kernel
theorem dL_law__1821 : decode cL_law_ 1821 = .ok (.iaload, 1) := by decide +kernel
theorem dL_law__1822 : decode cL_law_ 1822 = .ok (.aload_n 3, 1) := by decide +kernel
theorem dL_law__1823 : decode cL_law_ 1823 = .ok (.invokestatic 209, 3) := by decide +kernel
theorem dL_law__1826 : decode cL_law_ 1826 = .ok (.istore 5, 2) := by decide +kernel
theorem dL_law__1828 : decode cL_law_ 1828 = .ok (.aload_n 2, 1) := by decide +kernel
theorem dL_law__1829 : decode cL_law_ 1829 = .ok (.aload_n 0, 1) := by decide +kernel
theorem dL_law__1830 : decode cL_law_ 1830 = .ok (.iload 4, 2) := by decide +kernel
theorem dL_law__1832 : decode cL_law_ 1832 = .ok (.iconst 1, 1) := by decide +kernel
theorem dL_law__1833 : decode cL_law_ 1833 = .ok (.iadd, 1) := by decide +kernel
theorem dL_law__1834 : decode cL_law_ 1834 = .ok (.iaload, 1) := by decide +kernel
theorem dL_law__1835 : decode cL_law_ 1835 = .ok (.aload_n 0, 1) := by decide +kernel
theorem dL_law__1836 : decode cL_law_ 1836 = .ok (.iload 4, 2) := by decide +kernel
theorem dL_law__1838 : decode cL_law_ 1838 = .ok (.iconst 2, 1) := by decide +kernel
theorem dL_law__1839 : decode cL_law_ 1839 = .ok (.iadd, 1) := by decide +kernel
theorem dL_law__1840 : decode cL_law_ 1840 = .ok (.iaload, 1) := by decide +kernel
theorem dL_law__1841 : decode cL_law_ 1841 = .ok (.invokevirtual 211, 3) := by decide +kernel
theorem dL_law__1844 : decode cL_law_ 1844 = .ok (.istore 6, 2) := by decide +kernel
theorem dL_law__1846 : decode cL_law_ 1846 = .ok (.aload_n 2, 1) := by decide +kernel
theorem dL_law__1847 : decode cL_law_ 1847 = .ok (.invokevirtual 125, 3) := by decide +kernel
theorem dL_law__1850 : decode cL_law_ 1850 = .ok (.iload 5, 2) := by decide +kernel
theorem dL_law__1852 : decode cL_law_ 1852 = .ok (.if_icmp .eq 5, 3) := by decide +kernel
theorem dL_law__1855 : decode cL_law_ 1855 = .ok (.iconst 0, 1) := by decide +kernel
theorem dL_law__1856 : decode cL_law_ 1856 = .ok (.ireturn, 1) := by decide +kernel
theorem dL_law__1857 : decode cL_law_ 1857 = .ok (.iload 5, 2) := by decide +kernel
theorem dL_law__1859 : decode cL_law_ 1859 = .ok (.ifCond .ne 15, 3) := by decide +kernel
theorem dL_law__1862 : decode cL_law_ 1862 = .ok (.aload_n 3, 1) := by decide +kernel
theorem dL_law__1863 : decode cL_law_ 1863 = .ok (.iconst 0, 1) := by decide +kernel
theorem dL_law__1864 : decode cL_law_ 1864 = .ok (.laload, 1) := by decide +kernel
theorem dL_law__1865 : decode cL_law_ 1865 = .ok (.iload 6, 2) := by decide +kernel
theorem dL_law__1867 : decode cL_law_ 1867 = .ok (.i2l, 1) := by decide +kernel
theorem dL_law__1868 : decode cL_law_ 1868 = .ok (.lcmp, 1) := by decide +kernel
theorem dL_law__1869 : decode cL_law_ 1869 = .ok (.ifCond .eq 5, 3) := by decide +kernel
theorem dL_law__1872 : decode cL_law_ 1872 = .ok (.iconst 0, 1) := by decide +kernel
theorem dL_law__1873 : decode cL_law_ 1873 = .ok (.ireturn, 1) := by decide +kernel
theorem dL_law__1874 : decode cL_law_ 1874 = .ok (.goto 633, 3) := by decide +kernel
theorem dL_law__1877 : decode cL_law_ 1877 = .ok (.aload_n 1, 1) := by decide +kernel
theorem dL_law__1878 : decode cL_law_ 1878 = .ok (.aload_n 0, 1) := by decide +kernel
theorem dL_law__1879 : decode cL_law_ 1879 = .ok (.iload 4, 2) := by decide +kernel
theorem dL_law__1881 : decode cL_law_ 1881 = .ok (.iconst 1, 1) := by decide +kernel
theorem dL_law__1882 : decode cL_law_ 1882 = .ok (.iadd, 1) := by decide +kernel
theorem dL_law__1883 : decode cL_law_ 1883 = .ok (.iaload, 1) := by decide +kernel
theorem dL_law__1884 : decode cL_law_ 1884 = .ok (.aload_n 0, 1) := by decide +kernel
theorem dL_law__1885 : decode cL_law_ 1885 = .ok (.iload 4, 2) := by decide +kernel
theorem dL_law__1887 : decode cL_law_ 1887 = .ok (.iconst 2, 1) := by decide +kernel
theorem dL_law__1888 : decode cL_law_ 1888 = .ok (.iadd, 1) := by decide +kernel
theorem dL_law__1889 : decode cL_law_ 1889 = .ok (.iaload, 1) := by decide +kernel
theorem dL_law__1890 : decode cL_law_ 1890 = .ok (.aload_n 3, 1) := by decide +kernel
theorem dL_law__1891 : decode cL_law_ 1891 = .ok (.invokestatic 212, 3) := by decide +kernel
theorem dL_law__1894 : decode cL_law_ 1894 = .ok (.istore 5, 2) := by decide +kernel
theorem dL_law__1896 : decode cL_law_ 1896 = .ok (.aload_n 2, 1) := by decide +kernel
theorem dL_law__1897 : decode cL_law_ 1897 = .ok (.aload_n 0, 1) := by decide +kernel
theorem dL_law__1898 : decode cL_law_ 1898 = .ok (.iload 4, 2) := by decide +kernel
theorem dL_law__1900 : decode cL_law_ 1900 = .ok (.iconst 1, 1) := by decide +kernel
theorem dL_law__1901 : decode cL_law_ 1901 = .ok (.iadd, 1) := by decide +kernel
theorem dL_law__1902 : decode cL_law_ 1902 = .ok (.iaload, 1) := by decide +kernel
theorem dL_law__1903 : decode cL_law_ 1903 = .ok (.aload_n 0, 1) := by decide +kernel
theorem dL_law__1904 : decode cL_law_ 1904 = .ok (.iload 4, 2) := by decide +kernel
theorem dL_law__1906 : decode cL_law_ 1906 = .ok (.iconst 2, 1) := by decide +kernel
theorem dL_law__1907 : decode cL_law_ 1907 = .ok (.iadd, 1) := by decide +kernel
theorem dL_law__1908 : decode cL_law_ 1908 = .ok (.iaload, 1) := by decide +kernel
theorem dL_law__1909 : decode cL_law_ 1909 = .ok (.invokevirtual 214, 3) := by decide +kernel
theorem dL_law__1912 : decode cL_law_ 1912 = .ok (.istore 6, 2) := by decide +kernel
theorem dL_law__1914 : decode cL_law_ 1914 = .ok (.aload_n 2, 1) := by decide +kernel
theorem dL_law__1915 : decode cL_law_ 1915 = .ok (.invokevirtual 125, 3) := by decide +kernel
theorem dL_law__1918 : decode cL_law_ 1918 = .ok (.iload 5, 2) := by decide +kernel
theorem dL_law__1920 : decode cL_law_ 1920 = .ok (.if_icmp .eq 5, 3) := by decide +kernel
theorem dL_law__1923 : decode cL_law_ 1923 = .ok (.iconst 0, 1) := by decide +kernel
theorem dL_law__1924 : decode cL_law_ 1924 = .ok (.ireturn, 1) := by decide +kernel
theorem dL_law__1925 : decode cL_law_ 1925 = .ok (.iload 5, 2) := by decide +kernel
theorem dL_law__1927 : decode cL_law_ 1927 = .ok (.ifCond .ne 15, 3) := by decide +kernel
theorem dL_law__1930 : decode cL_law_ 1930 = .ok (.aload_n 3, 1) := by decide +kernel
theorem dL_law__1931 : decode cL_law_ 1931 = .ok (.iconst 0, 1) := by decide +kernel
theorem dL_law__1932 : decode cL_law_ 1932 = .ok (.laload, 1) := by decide +kernel
theorem dL_law__1933 : decode cL_law_ 1933 = .ok (.iload 6, 2) := by decide +kernel
theorem dL_law__1935 : decode cL_law_ 1935 = .ok (.i2l, 1) := by decide +kernel
theorem dL_law__1936 : decode cL_law_ 1936 = .ok (.lcmp, 1) := by decide +kernel
theorem dL_law__1937 : decode cL_law_ 1937 = .ok (.ifCond .eq 5, 3) := by decide +kernel
theorem dL_law__1940 : decode cL_law_ 1940 = .ok (.iconst 0, 1) := by decide +kernel
theorem dL_law__1941 : decode cL_law_ 1941 = .ok (.ireturn, 1) := by decide +kernel
theorem dL_law__1942 : decode cL_law_ 1942 = .ok (.goto 565, 3) := by decide +kernel
theorem dL_law__1945 : decode cL_law_ 1945 = .ok (.aload_n 1, 1) := by decide +kernel
theorem dL_law__1946 : decode cL_law_ 1946 = .ok (.aload_n 0, 1) := by decide +kernel
theorem dL_law__1947 : decode cL_law_ 1947 = .ok (.iload 4, 2) := by decide +kernel
theorem dL_law__1949 : decode cL_law_ 1949 = .ok (.iconst 1, 1) := by decide +kernel
theorem dL_law__1950 : decode cL_law_ 1950 = .ok (.iadd, 1) := by decide +kernel
theorem dL_law__1951 : decode cL_law_ 1951 = .ok (.iaload, 1) := by decide +kernel
theorem dL_law__1952 : decode cL_law_ 1952 = .ok (.aload_n 3, 1) := by decide +kernel
theorem dL_law__1953 : decode cL_law_ 1953 = .ok (.invokestatic 215, 3) := by decide +kernel
theorem dL_law__1956 : decode cL_law_ 1956 = .ok (.istore 5, 2) := by decide +kernel
theorem dL_law__1958 : decode cL_law_ 1958 = .ok (.aload_n 2, 1) := by decide +kernel
theorem dL_law__1959 : decode cL_law_ 1959 = .ok (.aload_n 0, 1) := by decide +kernel
theorem dL_law__1960 : decode cL_law_ 1960 = .ok (.iload 4, 2) := by decide +kernel
theorem dL_law__1962 : decode cL_law_ 1962 = .ok (.iconst 1, 1) := by decide +kernel
theorem dL_law__1963 : decode cL_law_ 1963 = .ok (.iadd, 1) := by decide +kernel
theorem dL_law__1964 : decode cL_law_ 1964 = .ok (.iaload, 1) := by decide +kernel
theorem dL_law__1965 : decode cL_law_ 1965 = .ok (.invokevirtual 217, 3) := by decide +kernel
theorem dL_law__1968 : decode cL_law_ 1968 = .ok (.istore 6, 2) := by decide +kernel
theorem dL_law__1970 : decode cL_law_ 1970 = .ok (.aload_n 2, 1) := by decide +kernel
theorem dL_law__1971 : decode cL_law_ 1971 = .ok (.invokevirtual 125, 3) := by decide +kernel
theorem dL_law__1974 : decode cL_law_ 1974 = .ok (.iload 5, 2) := by decide +kernel
theorem dL_law__1976 : decode cL_law_ 1976 = .ok (.if_icmp .eq 5, 3) := by decide +kernel
theorem dL_law__1979 : decode cL_law_ 1979 = .ok (.iconst 0, 1) := by decide +kernel
theorem dL_law__1980 : decode cL_law_ 1980 = .ok (.ireturn, 1) := by decide +kernel
theorem dL_law__1981 : decode cL_law_ 1981 = .ok (.iload 5, 2) := by decide +kernel
theorem dL_law__1983 : decode cL_law_ 1983 = .ok (.ifCond .ne 15, 3) := by decide +kernel
theorem dL_law__1986 : decode cL_law_ 1986 = .ok (.aload_n 3, 1) := by decide +kernel
theorem dL_law__1987 : decode cL_law_ 1987 = .ok (.iconst 0, 1) := by decide +kernel
theorem dL_law__1988 : decode cL_law_ 1988 = .ok (.laload, 1) := by decide +kernel
theorem dL_law__1989 : decode cL_law_ 1989 = .ok (.iload 6, 2) := by decide +kernel
theorem dL_law__1991 : decode cL_law_ 1991 = .ok (.i2l, 1) := by decide +kernel
theorem dL_law__1992 : decode cL_law_ 1992 = .ok (.lcmp, 1) := by decide +kernel
theorem dL_law__1993 : decode cL_law_ 1993 = .ok (.ifCond .eq 5, 3) := by decide +kernel
theorem dL_law__1996 : decode cL_law_ 1996 = .ok (.iconst 0, 1) := by decide +kernel
theorem dL_law__1997 : decode cL_law_ 1997 = .ok (.ireturn, 1) := by decide +kernel
theorem dL_law__1998 : decode cL_law_ 1998 = .ok (.goto 509, 3) := by decide +kernel
theorem dL_law__2001 : decode cL_law_ 2001 = .ok (.aload_n 1, 1) := by decide +kernel
theorem dL_law__2002 : decode cL_law_ 2002 = .ok (.aload_n 0, 1) := by decide +kernel
theorem dL_law__2003 : decode cL_law_ 2003 = .ok (.iload 4, 2) := by decide +kernel
theorem dL_law__2005 : decode cL_law_ 2005 = .ok (.iconst 1, 1) := by decide +kernel
theorem dL_law__2006 : decode cL_law_ 2006 = .ok (.iadd, 1) := by decide +kernel
theorem dL_law__2007 : decode cL_law_ 2007 = .ok (.iaload, 1) := by decide +kernel
theorem dL_law__2008 : decode cL_law_ 2008 = .ok (.aload_n 3, 1) := by decide +kernel
theorem dL_law__2009 : decode cL_law_ 2009 = .ok (.invokestatic 218, 3) := by decide +kernel
theorem dL_law__2012 : decode cL_law_ 2012 = .ok (.istore 5, 2) := by decide +kernel
theorem dL_law__2014 : decode cL_law_ 2014 = .ok (.aload_n 2, 1) := by decide +kernel
theorem dL_law__2015 : decode cL_law_ 2015 = .ok (.aload_n 0, 1) := by decide +kernel
theorem dL_law__2016 : decode cL_law_ 2016 = .ok (.iload 4, 2) := by decide +kernel
theorem dL_law__2018 : decode cL_law_ 2018 = .ok (.iconst 1, 1) := by decide +kernel
theorem dL_law__2019 : decode cL_law_ 2019 = .ok (.iadd, 1) := by decide +kernel
theorem dL_law__2020 : decode cL_law_ 2020 = .ok (.iaload, 1) := by decide +kernel
theorem dL_law__2021 : decode cL_law_ 2021 = .ok (.invokevirtual 220, 3) := by decide +kernel
theorem dL_law__2024 : decode cL_law_ 2024 = .ok (.istore 6, 2) := by decide +kernel
theorem dL_law__2026 : decode cL_law_ 2026 = .ok (.aload_n 2, 1) := by decide +kernel
theorem dL_law__2027 : decode cL_law_ 2027 = .ok (.invokevirtual 125, 3) := by decide +kernel
theorem dL_law__2030 : decode cL_law_ 2030 = .ok (.iload 5, 2) := by decide +kernel
theorem dL_law__2032 : decode cL_law_ 2032 = .ok (.if_icmp .eq 5, 3) := by decide +kernel
theorem dL_law__2035 : decode cL_law_ 2035 = .ok (.iconst 0, 1) := by decide +kernel
theorem dL_law__2036 : decode cL_law_ 2036 = .ok (.ireturn, 1) := by decide +kernel
theorem dL_law__2037 : decode cL_law_ 2037 = .ok (.iload 5, 2) := by decide +kernel
theorem dL_law__2039 : decode cL_law_ 2039 = .ok (.ifCond .ne 15, 3) := by decide +kernel
theorem dL_law__2042 : decode cL_law_ 2042 = .ok (.aload_n 3, 1) := by decide +kernel
theorem dL_law__2043 : decode cL_law_ 2043 = .ok (.iconst 0, 1) := by decide +kernel
theorem dL_law__2044 : decode cL_law_ 2044 = .ok (.laload, 1) := by decide +kernel
theorem dL_law__2045 : decode cL_law_ 2045 = .ok (.iload 6, 2) := by decide +kernel
theorem dL_law__2047 : decode cL_law_ 2047 = .ok (.i2l, 1) := by decide +kernel
theorem dL_law__2048 : decode cL_law_ 2048 = .ok (.lcmp, 1) := by decide +kernel
theorem dL_law__2049 : decode cL_law_ 2049 = .ok (.ifCond .eq 5, 3) := by decide +kernel
theorem dL_law__2052 : decode cL_law_ 2052 = .ok (.iconst 0, 1) := by decide +kernel
theorem dL_law__2053 : decode cL_law_ 2053 = .ok (.ireturn, 1) := by decide +kernel
theorem dL_law__2054 : decode cL_law_ 2054 = .ok (.goto 453, 3) := by decide +kernel
theorem dL_law__2057 : decode cL_law_ 2057 = .ok (.aload_n 1, 1) := by decide +kernel
theorem dL_law__2058 : decode cL_law_ 2058 = .ok (.aload_n 0, 1) := by decide +kernel
theorem dL_law__2059 : decode cL_law_ 2059 = .ok (.iload 4, 2) := by decide +kernel
theorem dL_law__2061 : decode cL_law_ 2061 = .ok (.iconst 1, 1) := by decide +kernel
theorem dL_law__2062 : decode cL_law_ 2062 = .ok (.iadd, 1) := by decide +kernel
theorem dL_law__2063 : decode cL_law_ 2063 = .ok (.iaload, 1) := by decide +kernel
theorem dL_law__2064 : decode cL_law_ 2064 = .ok (.aload_n 0, 1) := by decide +kernel
theorem dL_law__2065 : decode cL_law_ 2065 = .ok (.iload 4, 2) := by decide +kernel
theorem dL_law__2067 : decode cL_law_ 2067 = .ok (.iconst 2, 1) := by decide +kernel
theorem dL_law__2068 : decode cL_law_ 2068 = .ok (.iadd, 1) := by decide +kernel
theorem dL_law__2069 : decode cL_law_ 2069 = .ok (.iaload, 1) := by decide +kernel
theorem dL_law__2070 : decode cL_law_ 2070 = .ok (.aload_n 3, 1) := by decide +kernel
theorem dL_law__2071 : decode cL_law_ 2071 = .ok (.invokestatic 221, 3) := by decide +kernel
theorem dL_law__2074 : decode cL_law_ 2074 = .ok (.istore 5, 2) := by decide +kernel
theorem dL_law__2076 : decode cL_law_ 2076 = .ok (.aload_n 2, 1) := by decide +kernel
theorem dL_law__2077 : decode cL_law_ 2077 = .ok (.aload_n 0, 1) := by decide +kernel
theorem dL_law__2078 : decode cL_law_ 2078 = .ok (.iload 4, 2) := by decide +kernel
theorem dL_law__2080 : decode cL_law_ 2080 = .ok (.iconst 1, 1) := by decide +kernel
theorem dL_law__2081 : decode cL_law_ 2081 = .ok (.iadd, 1) := by decide +kernel
theorem dL_law__2082 : decode cL_law_ 2082 = .ok (.iaload, 1) := by decide +kernel
theorem dL_law__2083 : decode cL_law_ 2083 = .ok (.aload_n 0, 1) := by decide +kernel
theorem dL_law__2084 : decode cL_law_ 2084 = .ok (.iload 4, 2) := by decide +kernel
theorem dL_law__2086 : decode cL_law_ 2086 = .ok (.iconst 2, 1) := by decide +kernel
theorem dL_law__2087 : decode cL_law_ 2087 = .ok (.iadd, 1) := by decide +kernel
theorem dL_law__2088 : decode cL_law_ 2088 = .ok (.iaload, 1) := by decide +kernel
theorem dL_law__2089 : decode cL_law_ 2089 = .ok (.invokevirtual 223, 3) := by decide +kernel
theorem dL_law__2092 : decode cL_law_ 2092 = .ok (.istore 6, 2) := by decide +kernel
theorem dL_law__2094 : decode cL_law_ 2094 = .ok (.aload_n 2, 1) := by decide +kernel
theorem dL_law__2095 : decode cL_law_ 2095 = .ok (.invokevirtual 125, 3) := by decide +kernel
theorem dL_law__2098 : decode cL_law_ 2098 = .ok (.iload 5, 2) := by decide +kernel
theorem dL_law__2100 : decode cL_law_ 2100 = .ok (.if_icmp .eq 5, 3) := by decide +kernel
theorem dL_law__2103 : decode cL_law_ 2103 = .ok (.iconst 0, 1) := by decide +kernel
theorem dL_law__2104 : decode cL_law_ 2104 = .ok (.ireturn, 1) := by decide +kernel
theorem dL_law__2105 : decode cL_law_ 2105 = .ok (.iload 5, 2) := by decide +kernel
theorem dL_law__2107 : decode cL_law_ 2107 = .ok (.ifCond .ne 15, 3) := by decide +kernel
theorem dL_law__2110 : decode cL_law_ 2110 = .ok (.aload_n 3, 1) := by decide +kernel
theorem dL_law__2111 : decode cL_law_ 2111 = .ok (.iconst 0, 1) := by decide +kernel
theorem dL_law__2112 : decode cL_law_ 2112 = .ok (.laload, 1) := by decide +kernel
theorem dL_law__2113 : decode cL_law_ 2113 = .ok (.iload 6, 2) := by decide +kernel
theorem dL_law__2115 : decode cL_law_ 2115 = .ok (.i2l, 1) := by decide +kernel
theorem dL_law__2116 : decode cL_law_ 2116 = .ok (.lcmp, 1) := by decide +kernel
theorem dL_law__2117 : decode cL_law_ 2117 = .ok (.ifCond .eq 5, 3) := by decide +kernel
theorem dL_law__2120 : decode cL_law_ 2120 = .ok (.iconst 0, 1) := by decide +kernel
theorem dL_law__2121 : decode cL_law_ 2121 = .ok (.ireturn, 1) := by decide +kernel
theorem dL_law__2122 : decode cL_law_ 2122 = .ok (.goto 385, 3) := by decide +kernel
theorem dL_law__2125 : decode cL_law_ 2125 = .ok (.aload_n 1, 1) := by decide +kernel
theorem dL_law__2126 : decode cL_law_ 2126 = .ok (.aload_n 0, 1) := by decide +kernel
theorem dL_law__2127 : decode cL_law_ 2127 = .ok (.iload 4, 2) := by decide +kernel
theorem dL_law__2129 : decode cL_law_ 2129 = .ok (.iconst 1, 1) := by decide +kernel
theorem dL_law__2130 : decode cL_law_ 2130 = .ok (.iadd, 1) := by decide +kernel
theorem dL_law__2131 : decode cL_law_ 2131 = .ok (.iaload, 1) := by decide +kernel
theorem dL_law__2132 : decode cL_law_ 2132 = .ok (.aload_n 3, 1) := by decide +kernel
theorem dL_law__2133 : decode cL_law_ 2133 = .ok (.invokestatic 224, 3) := by decide +kernel
theorem dL_law__2136 : decode cL_law_ 2136 = .ok (.istore 5, 2) := by decide +kernel
theorem dL_law__2138 : decode cL_law_ 2138 = .ok (.aload_n 2, 1) := by decide +kernel
theorem dL_law__2139 : decode cL_law_ 2139 = .ok (.aload_n 0, 1) := by decide +kernel
theorem dL_law__2140 : decode cL_law_ 2140 = .ok (.iload 4, 2) := by decide +kernel
theorem dL_law__2142 : decode cL_law_ 2142 = .ok (.iconst 1, 1) := by decide +kernel
theorem dL_law__2143 : decode cL_law_ 2143 = .ok (.iadd, 1) := by decide +kernel
theorem dL_law__2144 : decode cL_law_ 2144 = .ok (.iaload, 1) := by decide +kernel
theorem dL_law__2145 : decode cL_law_ 2145 = .ok (.invokevirtual 226, 3) := by decide +kernel
theorem dL_law__2148 : decode cL_law_ 2148 = .ok (.istore 6, 2) := by decide +kernel
theorem dL_law__2150 : decode cL_law_ 2150 = .ok (.aload_n 2, 1) := by decide +kernel
theorem dL_law__2151 : decode cL_law_ 2151 = .ok (.invokevirtual 125, 3) := by decide +kernel
theorem dL_law__2154 : decode cL_law_ 2154 = .ok (.iload 5, 2) := by decide +kernel
theorem dL_law__2156 : decode cL_law_ 2156 = .ok (.if_icmp .eq 5, 3) := by decide +kernel
theorem dL_law__2159 : decode cL_law_ 2159 = .ok (.iconst 0, 1) := by decide +kernel
theorem dL_law__2160 : decode cL_law_ 2160 = .ok (.ireturn, 1) := by decide +kernel
theorem dL_law__2161 : decode cL_law_ 2161 = .ok (.iload 5, 2) := by decide +kernel
theorem dL_law__2163 : decode cL_law_ 2163 = .ok (.ifCond .ne 15, 3) := by decide +kernel
theorem dL_law__2166 : decode cL_law_ 2166 = .ok (.aload_n 3, 1) := by decide +kernel
theorem dL_law__2167 : decode cL_law_ 2167 = .ok (.iconst 0, 1) := by decide +kernel
theorem dL_law__2168 : decode cL_law_ 2168 = .ok (.laload, 1) := by decide +kernel
theorem dL_law__2169 : decode cL_law_ 2169 = .ok (.iload 6, 2) := by decide +kernel
theorem dL_law__2171 : decode cL_law_ 2171 = .ok (.i2l, 1) := by decide +kernel
theorem dL_law__2172 : decode cL_law_ 2172 = .ok (.lcmp, 1) := by decide +kernel
theorem dL_law__2173 : decode cL_law_ 2173 = .ok (.ifCond .eq 5, 3) := by decide +kernel
theorem dL_law__2176 : decode cL_law_ 2176 = .ok (.iconst 0, 1) := by decide +kernel
theorem dL_law__2177 : decode cL_law_ 2177 = .ok (.ireturn, 1) := by decide +kernel
theorem dL_law__2178 : decode cL_law_ 2178 = .ok (.goto 329, 3) := by decide +kernel
theorem dL_law__2181 : decode cL_law_ 2181 = .ok (.aload_n 1, 1) := by decide +kernel
theorem dL_law__2182 : decode cL_law_ 2182 = .ok (.aload_n 0, 1) := by decide +kernel
theorem dL_law__2183 : decode cL_law_ 2183 = .ok (.iload 4, 2) := by decide +kernel
theorem dL_law__2185 : decode cL_law_ 2185 = .ok (.iconst 1, 1) := by decide +kernel
theorem dL_law__2186 : decode cL_law_ 2186 = .ok (.iadd, 1) := by decide +kernel
theorem dL_law__2187 : decode cL_law_ 2187 = .ok (.iaload, 1) := by decide +kernel
theorem dL_law__2188 : decode cL_law_ 2188 = .ok (.aload_n 0, 1) := by decide +kernel
theorem dL_law__2189 : decode cL_law_ 2189 = .ok (.iload 4, 2) := by decide +kernel
theorem dL_law__2191 : decode cL_law_ 2191 = .ok (.iconst 2, 1) := by decide +kernel
theorem dL_law__2192 : decode cL_law_ 2192 = .ok (.iadd, 1) := by decide +kernel
theorem dL_law__2193 : decode cL_law_ 2193 = .ok (.iaload, 1) := by decide +kernel
theorem dL_law__2194 : decode cL_law_ 2194 = .ok (.aload_n 0, 1) := by decide +kernel
theorem dL_law__2195 : decode cL_law_ 2195 = .ok (.iload 4, 2) := by decide +kernel
theorem dL_law__2197 : decode cL_law_ 2197 = .ok (.iconst 3, 1) := by decide +kernel
theorem dL_law__2198 : decode cL_law_ 2198 = .ok (.iadd, 1) := by decide +kernel
theorem dL_law__2199 : decode cL_law_ 2199 = .ok (.iaload, 1) := by decide +kernel
theorem dL_law__2200 : decode cL_law_ 2200 = .ok (.aload_n 0, 1) := by decide +kernel
theorem dL_law__2201 : decode cL_law_ 2201 = .ok (.iload 4, 2) := by decide +kernel
theorem dL_law__2203 : decode cL_law_ 2203 = .ok (.iconst 4, 1) := by decide +kernel
theorem dL_law__2204 : decode cL_law_ 2204 = .ok (.iadd, 1) := by decide +kernel
theorem dL_law__2205 : decode cL_law_ 2205 = .ok (.iaload, 1) := by decide +kernel
theorem dL_law__2206 : decode cL_law_ 2206 = .ok (.aload_n 0, 1) := by decide +kernel
theorem dL_law__2207 : decode cL_law_ 2207 = .ok (.iload 4, 2) := by decide +kernel
theorem dL_law__2209 : decode cL_law_ 2209 = .ok (.iconst 5, 1) := by decide +kernel
theorem dL_law__2210 : decode cL_law_ 2210 = .ok (.iadd, 1) := by decide +kernel
theorem dL_law__2211 : decode cL_law_ 2211 = .ok (.iaload, 1) := by decide +kernel
theorem dL_law__2212 : decode cL_law_ 2212 = .ok (.aload_n 0, 1) := by decide +kernel
theorem dL_law__2213 : decode cL_law_ 2213 = .ok (.iload 4, 2) := by decide +kernel
theorem dL_law__2215 : decode cL_law_ 2215 = .ok (.bipush 6, 2) := by decide +kernel
theorem dL_law__2217 : decode cL_law_ 2217 = .ok (.iadd, 1) := by decide +kernel
theorem dL_law__2218 : decode cL_law_ 2218 = .ok (.iaload, 1) := by decide +kernel
theorem dL_law__2219 : decode cL_law_ 2219 = .ok (.aload_n 3, 1) := by decide +kernel
theorem dL_law__2220 : decode cL_law_ 2220 = .ok (.invokestatic 227, 3) := by decide +kernel
theorem dL_law__2223 : decode cL_law_ 2223 = .ok (.istore 5, 2) := by decide +kernel
theorem dL_law__2225 : decode cL_law_ 2225 = .ok (.aload_n 2, 1) := by decide +kernel
theorem dL_law__2226 : decode cL_law_ 2226 = .ok (.aload_n 0, 1) := by decide +kernel
theorem dL_law__2227 : decode cL_law_ 2227 = .ok (.iload 4, 2) := by decide +kernel
theorem dL_law__2229 : decode cL_law_ 2229 = .ok (.iconst 1, 1) := by decide +kernel
theorem dL_law__2230 : decode cL_law_ 2230 = .ok (.iadd, 1) := by decide +kernel
theorem dL_law__2231 : decode cL_law_ 2231 = .ok (.iaload, 1) := by decide +kernel
theorem dL_law__2232 : decode cL_law_ 2232 = .ok (.aload_n 0, 1) := by decide +kernel
theorem dL_law__2233 : decode cL_law_ 2233 = .ok (.iload 4, 2) := by decide +kernel
theorem dL_law__2235 : decode cL_law_ 2235 = .ok (.iconst 2, 1) := by decide +kernel
theorem dL_law__2236 : decode cL_law_ 2236 = .ok (.iadd, 1) := by decide +kernel
theorem dL_law__2237 : decode cL_law_ 2237 = .ok (.iaload, 1) := by decide +kernel
theorem dL_law__2238 : decode cL_law_ 2238 = .ok (.aload_n 0, 1) := by decide +kernel
theorem dL_law__2239 : decode cL_law_ 2239 = .ok (.iload 4, 2) := by decide +kernel
theorem dL_law__2241 : decode cL_law_ 2241 = .ok (.iconst 3, 1) := by decide +kernel
theorem dL_law__2242 : decode cL_law_ 2242 = .ok (.iadd, 1) := by decide +kernel
theorem dL_law__2243 : decode cL_law_ 2243 = .ok (.iaload, 1) := by decide +kernel
theorem dL_law__2244 : decode cL_law_ 2244 = .ok (.aload_n 0, 1) := by decide +kernel
theorem dL_law__2245 : decode cL_law_ 2245 = .ok (.iload 4, 2) := by decide +kernel
theorem dL_law__2247 : decode cL_law_ 2247 = .ok (.iconst 4, 1) := by decide +kernel
theorem dL_law__2248 : decode cL_law_ 2248 = .ok (.iadd, 1) := by decide +kernel
theorem dL_law__2249 : decode cL_law_ 2249 = .ok (.iaload, 1) := by decide +kernel
theorem dL_law__2250 : decode cL_law_ 2250 = .ok (.aload_n 0, 1) := by decide +kernel
theorem dL_law__2251 : decode cL_law_ 2251 = .ok (.iload 4, 2) := by decide +kernel
theorem dL_law__2253 : decode cL_law_ 2253 = .ok (.iconst 5, 1) := by decide +kernel
theorem dL_law__2254 : decode cL_law_ 2254 = .ok (.iadd, 1) := by decide +kernel
theorem dL_law__2255 : decode cL_law_ 2255 = .ok (.iaload, 1) := by decide +kernel
theorem dL_law__2256 : decode cL_law_ 2256 = .ok (.aload_n 0, 1) := by decide +kernel
theorem dL_law__2257 : decode cL_law_ 2257 = .ok (.iload 4, 2) := by decide +kernel
theorem dL_law__2259 : decode cL_law_ 2259 = .ok (.bipush 6, 2) := by decide +kernel
theorem dL_law__2261 : decode cL_law_ 2261 = .ok (.iadd, 1) := by decide +kernel
theorem dL_law__2262 : decode cL_law_ 2262 = .ok (.iaload, 1) := by decide +kernel
theorem dL_law__2263 : decode cL_law_ 2263 = .ok (.invokevirtual 229, 3) := by decide +kernel
theorem dL_law__2266 : decode cL_law_ 2266 = .ok (.istore 6, 2) := by decide +kernel
theorem dL_law__2268 : decode cL_law_ 2268 = .ok (.aload_n 2, 1) := by decide +kernel
theorem dL_law__2269 : decode cL_law_ 2269 = .ok (.invokevirtual 125, 3) := by decide +kernel
theorem dL_law__2272 : decode cL_law_ 2272 = .ok (.iload 5, 2) := by decide +kernel
theorem dL_law__2274 : decode cL_law_ 2274 = .ok (.if_icmp .eq 5, 3) := by decide +kernel
theorem dL_law__2277 : decode cL_law_ 2277 = .ok (.iconst 0, 1) := by decide +kernel
theorem dL_law__2278 : decode cL_law_ 2278 = .ok (.ireturn, 1) := by decide +kernel
theorem dL_law__2279 : decode cL_law_ 2279 = .ok (.iload 5, 2) := by decide +kernel
theorem dL_law__2281 : decode cL_law_ 2281 = .ok (.ifCond .ne 15, 3) := by decide +kernel
theorem dL_law__2284 : decode cL_law_ 2284 = .ok (.aload_n 3, 1) := by decide +kernel
theorem dL_law__2285 : decode cL_law_ 2285 = .ok (.iconst 0, 1) := by decide +kernel
theorem dL_law__2286 : decode cL_law_ 2286 = .ok (.laload, 1) := by decide +kernel
theorem dL_law__2287 : decode cL_law_ 2287 = .ok (.iload 6, 2) := by decide +kernel
theorem dL_law__2289 : decode cL_law_ 2289 = .ok (.i2l, 1) := by decide +kernel
theorem dL_law__2290 : decode cL_law_ 2290 = .ok (.lcmp, 1) := by decide +kernel
theorem dL_law__2291 : decode cL_law_ 2291 = .ok (.ifCond .eq 5, 3) := by decide +kernel
theorem dL_law__2294 : decode cL_law_ 2294 = .ok (.iconst 0, 1) := by decide +kernel
theorem dL_law__2295 : decode cL_law_ 2295 = .ok (.ireturn, 1) := by decide +kernel
theorem dL_law__2296 : decode cL_law_ 2296 = .ok (.goto 211, 3) := by decide +kernel
theorem dL_law__2299 : decode cL_law_ 2299 = .ok (.aload_n 1, 1) := by decide +kernel
theorem dL_law__2300 : decode cL_law_ 2300 = .ok (.aload_n 0, 1) := by decide +kernel
theorem dL_law__2301 : decode cL_law_ 2301 = .ok (.iload 4, 2) := by decide +kernel
theorem dL_law__2303 : decode cL_law_ 2303 = .ok (.iconst 1, 1) := by decide +kernel
theorem dL_law__2304 : decode cL_law_ 2304 = .ok (.iadd, 1) := by decide +kernel
theorem dL_law__2305 : decode cL_law_ 2305 = .ok (.iaload, 1) := by decide +kernel
theorem dL_law__2306 : decode cL_law_ 2306 = .ok (.aload_n 0, 1) := by decide +kernel
theorem dL_law__2307 : decode cL_law_ 2307 = .ok (.iload 4, 2) := by decide +kernel
theorem dL_law__2309 : decode cL_law_ 2309 = .ok (.iconst 2, 1) := by decide +kernel
theorem dL_law__2310 : decode cL_law_ 2310 = .ok (.iadd, 1) := by decide +kernel
theorem dL_law__2311 : decode cL_law_ 2311 = .ok (.iaload, 1) := by decide +kernel
theorem dL_law__2312 : decode cL_law_ 2312 = .ok (.aload_n 0, 1) := by decide +kernel
theorem dL_law__2313 : decode cL_law_ 2313 = .ok (.iload 4, 2) := by decide +kernel
theorem dL_law__2315 : decode cL_law_ 2315 = .ok (.iconst 3, 1) := by decide +kernel
theorem dL_law__2316 : decode cL_law_ 2316 = .ok (.iadd, 1) := by decide +kernel
theorem dL_law__2317 : decode cL_law_ 2317 = .ok (.iaload, 1) := by decide +kernel
theorem dL_law__2318 : decode cL_law_ 2318 = .ok (.aload_n 0, 1) := by decide +kernel
theorem dL_law__2319 : decode cL_law_ 2319 = .ok (.iload 4, 2) := by decide +kernel
theorem dL_law__2321 : decode cL_law_ 2321 = .ok (.iconst 4, 1) := by decide +kernel
theorem dL_law__2322 : decode cL_law_ 2322 = .ok (.iadd, 1) := by decide +kernel
theorem dL_law__2323 : decode cL_law_ 2323 = .ok (.iaload, 1) := by decide +kernel
theorem dL_law__2324 : decode cL_law_ 2324 = .ok (.aload_n 0, 1) := by decide +kernel
theorem dL_law__2325 : decode cL_law_ 2325 = .ok (.iload 4, 2) := by decide +kernel
theorem dL_law__2327 : decode cL_law_ 2327 = .ok (.iconst 5, 1) := by decide +kernel
theorem dL_law__2328 : decode cL_law_ 2328 = .ok (.iadd, 1) := by decide +kernel
theorem dL_law__2329 : decode cL_law_ 2329 = .ok (.iaload, 1) := by decide +kernel
theorem dL_law__2330 : decode cL_law_ 2330 = .ok (.aload_n 0, 1) := by decide +kernel
theorem dL_law__2331 : decode cL_law_ 2331 = .ok (.iload 4, 2) := by decide +kernel
theorem dL_law__2333 : decode cL_law_ 2333 = .ok (.bipush 6, 2) := by decide +kernel
theorem dL_law__2335 : decode cL_law_ 2335 = .ok (.iadd, 1) := by decide +kernel
theorem dL_law__2336 : decode cL_law_ 2336 = .ok (.iaload, 1) := by decide +kernel
theorem dL_law__2337 : decode cL_law_ 2337 = .ok (.aload_n 0, 1) := by decide +kernel
theorem dL_law__2338 : decode cL_law_ 2338 = .ok (.iload 4, 2) := by decide +kernel
theorem dL_law__2340 : decode cL_law_ 2340 = .ok (.bipush 7, 2) := by decide +kernel
theorem dL_law__2342 : decode cL_law_ 2342 = .ok (.iadd, 1) := by decide +kernel
theorem dL_law__2343 : decode cL_law_ 2343 = .ok (.iaload, 1) := by decide +kernel
theorem dL_law__2344 : decode cL_law_ 2344 = .ok (.aload_n 3, 1) := by decide +kernel
theorem dL_law__2345 : decode cL_law_ 2345 = .ok (.invokestatic 230, 3) := by decide +kernel
theorem dL_law__2348 : decode cL_law_ 2348 = .ok (.istore 5, 2) := by decide +kernel
theorem dL_law__2350 : decode cL_law_ 2350 = .ok (.aload_n 2, 1) := by decide +kernel
theorem dL_law__2351 : decode cL_law_ 2351 = .ok (.aload_n 0, 1) := by decide +kernel
theorem dL_law__2352 : decode cL_law_ 2352 = .ok (.iload 4, 2) := by decide +kernel
theorem dL_law__2354 : decode cL_law_ 2354 = .ok (.iconst 1, 1) := by decide +kernel
theorem dL_law__2355 : decode cL_law_ 2355 = .ok (.iadd, 1) := by decide +kernel
theorem dL_law__2356 : decode cL_law_ 2356 = .ok (.iaload, 1) := by decide +kernel
theorem dL_law__2357 : decode cL_law_ 2357 = .ok (.aload_n 0, 1) := by decide +kernel
theorem dL_law__2358 : decode cL_law_ 2358 = .ok (.iload 4, 2) := by decide +kernel
theorem dL_law__2360 : decode cL_law_ 2360 = .ok (.iconst 2, 1) := by decide +kernel
theorem dL_law__2361 : decode cL_law_ 2361 = .ok (.iadd, 1) := by decide +kernel
theorem dL_law__2362 : decode cL_law_ 2362 = .ok (.iaload, 1) := by decide +kernel
theorem dL_law__2363 : decode cL_law_ 2363 = .ok (.aload_n 0, 1) := by decide +kernel
theorem dL_law__2364 : decode cL_law_ 2364 = .ok (.iload 4, 2) := by decide +kernel
theorem dL_law__2366 : decode cL_law_ 2366 = .ok (.iconst 3, 1) := by decide +kernel
theorem dL_law__2367 : decode cL_law_ 2367 = .ok (.iadd, 1) := by decide +kernel
theorem dL_law__2368 : decode cL_law_ 2368 = .ok (.iaload, 1) := by decide +kernel
theorem dL_law__2369 : decode cL_law_ 2369 = .ok (.aload_n 0, 1) := by decide +kernel
theorem dL_law__2370 : decode cL_law_ 2370 = .ok (.iload 4, 2) := by decide +kernel
theorem dL_law__2372 : decode cL_law_ 2372 = .ok (.iconst 4, 1) := by decide +kernel
theorem dL_law__2373 : decode cL_law_ 2373 = .ok (.iadd, 1) := by decide +kernel
theorem dL_law__2374 : decode cL_law_ 2374 = .ok (.iaload, 1) := by decide +kernel
theorem dL_law__2375 : decode cL_law_ 2375 = .ok (.aload_n 0, 1) := by decide +kernel
theorem dL_law__2376 : decode cL_law_ 2376 = .ok (.iload 4, 2) := by decide +kernel
theorem dL_law__2378 : decode cL_law_ 2378 = .ok (.iconst 5, 1) := by decide +kernel
theorem dL_law__2379 : decode cL_law_ 2379 = .ok (.iadd, 1) := by decide +kernel
theorem dL_law__2380 : decode cL_law_ 2380 = .ok (.iaload, 1) := by decide +kernel
theorem dL_law__2381 : decode cL_law_ 2381 = .ok (.aload_n 0, 1) := by decide +kernel
theorem dL_law__2382 : decode cL_law_ 2382 = .ok (.iload 4, 2) := by decide +kernel
theorem dL_law__2384 : decode cL_law_ 2384 = .ok (.bipush 6, 2) := by decide +kernel
theorem dL_law__2386 : decode cL_law_ 2386 = .ok (.iadd, 1) := by decide +kernel
theorem dL_law__2387 : decode cL_law_ 2387 = .ok (.iaload, 1) := by decide +kernel
theorem dL_law__2388 : decode cL_law_ 2388 = .ok (.aload_n 0, 1) := by decide +kernel
theorem dL_law__2389 : decode cL_law_ 2389 = .ok (.iload 4, 2) := by decide +kernel
theorem dL_law__2391 : decode cL_law_ 2391 = .ok (.bipush 7, 2) := by decide +kernel
theorem dL_law__2393 : decode cL_law_ 2393 = .ok (.iadd, 1) := by decide +kernel
theorem dL_law__2394 : decode cL_law_ 2394 = .ok (.iaload, 1) := by decide +kernel
theorem dL_law__2395 : decode cL_law_ 2395 = .ok (.invokevirtual 232, 3) := by decide +kernel
theorem dL_law__2398 : decode cL_law_ 2398 = .ok (.istore 6, 2) := by decide +kernel
theorem dL_law__2400 : decode cL_law_ 2400 = .ok (.aload_n 2, 1) := by decide +kernel
theorem dL_law__2401 : decode cL_law_ 2401 = .ok (.invokevirtual 125, 3) := by decide +kernel
theorem dL_law__2404 : decode cL_law_ 2404 = .ok (.iload 5, 2) := by decide +kernel
theorem dL_law__2406 : decode cL_law_ 2406 = .ok (.if_icmp .eq 5, 3) := by decide +kernel
theorem dL_law__2409 : decode cL_law_ 2409 = .ok (.iconst 0, 1) := by decide +kernel
theorem dL_law__2410 : decode cL_law_ 2410 = .ok (.ireturn, 1) := by decide +kernel
theorem dL_law__2411 : decode cL_law_ 2411 = .ok (.iload 5, 2) := by decide +kernel
theorem dL_law__2413 : decode cL_law_ 2413 = .ok (.ifCond .ne 15, 3) := by decide +kernel
theorem dL_law__2416 : decode cL_law_ 2416 = .ok (.aload_n 3, 1) := by decide +kernel
theorem dL_law__2417 : decode cL_law_ 2417 = .ok (.iconst 0, 1) := by decide +kernel
theorem dL_law__2418 : decode cL_law_ 2418 = .ok (.laload, 1) := by decide +kernel
theorem dL_law__2419 : decode cL_law_ 2419 = .ok (.iload 6, 2) := by decide +kernel
theorem dL_law__2421 : decode cL_law_ 2421 = .ok (.i2l, 1) := by decide +kernel
theorem dL_law__2422 : decode cL_law_ 2422 = .ok (.lcmp, 1) := by decide +kernel
theorem dL_law__2423 : decode cL_law_ 2423 = .ok (.ifCond .eq 5, 3) := by decide +kernel
theorem dL_law__2426 : decode cL_law_ 2426 = .ok (.iconst 0, 1) := by decide +kernel
